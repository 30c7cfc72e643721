/-! the reference's side -/
def mM (τ : z_Mem) (a : aS) : Prop := τ.1 0 10 = nI (an a) ∧ τ.1 0 12 = nI (ar a).length ∧ τ.1 0 7 = ah a ∧ τ.1 0 8 = ac a ∧ τ.1 0 4 = nI (au a) ∧ (∀ i, i < 6 → τ.1 4 (3 * i + 2) = ak a i ∧ τ.1 4 (3 * i) = am a i ∧ τ.1 4 (3 * i + 1) = as_ a i) ∧ ∀ i, i < (ar a).length → τ.1 5 i = nI ((ar a).getD i 0)
/-- only what a reading of a text uses has changed -/
def mK (τ τ' : z_Mem) : Prop := (∀ k, k ≠ 0 → τ'.1 k = τ.1 k) ∧ ∀ j, (j < 13 ∨ 27 < j) → τ'.1 0 j = τ.1 0 j
theorem mK_rf {τ : z_Mem} : mK τ τ := ⟨fun _ _ => rfl, fun _ _ => rfl⟩
theorem mK_tr {τ τ' τ'' : z_Mem} (h : mK τ τ') (h' : mK τ' τ'') : mK τ τ'' := ⟨fun k hk => (h'.1 k hk).trans (h.1 k hk), fun j hj => (h'.2 j hj).trans (h.2 j hj)⟩
theorem mK_pt {τ : z_Mem} {j : Nat} {v : Int32} (h : 13 ≤ j ∧ j ≤ 27) : mK τ (z_pt τ 0 j v) := ⟨fun k hk => z_pt_r hk, fun q hq => z_pt_2 (by omega)⟩
theorem mM_kept {τ τ' : z_Mem} {a : aS} (h : mM τ a) (hk : mK τ τ') : mM τ' a := by
  unfold mM
  rw [hk.2 10 (by omega), hk.2 12 (by omega), hk.2 7 (by omega), hk.2 8 (by omega), hk.2 4 (by omega), hk.1 4 (by omega), hk.1 5 (by omega)]
  exact h
theorem i64 (x : Int32) : x.toInt64.toInt = x.toInt := by simp
theorem lgc_lt {x y : Int64} : lg_cmp x y < 0 ↔ x.toInt < y.toInt := by rw [lg_cmp_lt, Int64.lt_iff_toInt_lt]
theorem lgc_gt {x y : Int64} : 0 < lg_cmp x y ↔ y.toInt < x.toInt := by rw [lg_cmp_gt, Int64.lt_iff_toInt_lt]
theorem m_in {x : Int32} {l h : Int64} {τ : z_Mem} : fX6_in x.toInt64 l h τ = some (if l.toInt ≤ x.toInt ∧ x.toInt ≤ h.toInt then 1 else 0, τ) := by
  unfold fX6_in
  simp only [lgc_lt, lgc_gt, i64]
  repeat' split
  all_goals first | rfl | omega
theorem z_m1 {n : Nat} (h : n ≤ 6) : ((nI n - (1 : Int32)).toInt64).toInt = (n : Int) - 1 := by
  rw [i64, Int32.toInt_sub, nI_toInt (by omega), show (1 : Int32).toInt = 1 from rfl, Int.bmod_eq_of_le (by omega) (by omega)]
theorem m_isOne {τ : z_Mem} {a : aS} {x : Int32} (h : mM τ a) (hw : aW a) : fX6_isOne x τ = some (if 0 ≤ x.toInt ∧ x.toInt < an a then 1 else 0, τ) := by
  have h6 := hw.1
  unfold fX6_isOne
  rw [z_bdE m_in, h.1, z_m1 h6, show (0 : Int64).toInt = 0 from rfl]
  by_cases q : 0 ≤ x.toInt ∧ x.toInt ≤ (an a : Int) - 1
  · rw [if_pos q, if_pos (by omega), z_gdT (by decide)]
  · rw [if_neg q, if_neg (by omega), z_gdT (by decide)]
theorem m_isOneN {τ : z_Mem} {a : aS} {p : Nat} (h : mM τ a) (hw : aW a) (hp : p < an a) : fX6_isOne (nI p) τ = some (1, τ) := by
  have h6 := hw.1
  rw [m_isOne h hw, nI_toInt (by omega), if_pos (by omega)]
theorem m_isPlace {τ : z_Mem} {a : aS} {x : Int32} (h : mM τ a) (hw : aW a) : fX6_isPlace x τ = some (if 0 ≤ x.toInt ∧ x.toInt < (ar a).length then 1 else 0, τ) := by
  have h6 := aW_len hw
  unfold fX6_isPlace
  rw [z_bdE m_in, h.2.1, z_m1 h6, show (0 : Int64).toInt = 0 from rfl]
  by_cases q : 0 ≤ x.toInt ∧ x.toInt ≤ ((ar a).length : Int) - 1
  · rw [if_pos q, if_pos (by omega), z_gdT (by decide)]
  · rw [if_neg q, if_neg (by omega), z_gdT (by decide)]
theorem m_within {x : Int32} {τ : z_Mem} : fX6_within x 0 99 τ = some (zb x, τ) := by
  unfold fX6_within zb
  repeat' split
  all_goals rfl
theorem m_within20 {x : Int32} {τ : z_Mem} (h : 0 ≤ x.toInt) : fX6_within x 0 20 τ = some (z_mn x 20, τ) := by
  unfold fX6_within z_mn
  simp only [Int32.le_iff_toInt_le, Int32.lt_iff_toInt_lt]
  rw [if_pos (by simpa using h)]
  have h20 : (20 : Int32).toInt = 20 := rfl
  repeat' split
  all_goals first | rfl | omega
/-- the reference's TEXTS say tv -/
def zSix (k : Nat) : Nat := if k < 5 then k else 5
def mT (τ : z_Mem) (tv : zTV) (n : Nat) : Prop := τ.1 0 3 = nI n ∧ n ≤ 6 ∧ ∀ t, t < n → ∀ k, k < 3 → ∀ τ' : z_Mem, (∀ i, i < 160 * n → τ'.1 1 i = τ.1 1 i) → (∀ i, i < n → τ'.1 2 i = τ.1 2 i) → z_R (fX6_read (nI t) (nI k) τ') (fun r τ'' => r = tv t k (fun q => τ'.1 0 (13 + zSix q)) ∧ mK τ' τ'' ∧ ∀ q, q < 6 → τ''.1 0 (13 + q) = τ'.1 0 (13 + q))
theorem mT_kept {τ τ' : z_Mem} {tv : zTV} {n : Nat} (h : mT τ tv n) (h3 : τ'.1 0 3 = τ.1 0 3) (h1 : τ'.1 1 = τ.1 1) (h2 : τ'.1 2 = τ.1 2) : mT τ' tv n := by
  unfold mT
  rw [h1, h2, h3]
  exact h
theorem mT_k {τ τ' : z_Mem} {tv : zTV} {n : Nat} (h : mT τ tv n) (hk : mK τ τ') : mT τ' tv n := mT_kept h (hk.2 3 (by omega)) (hk.1 1 (by omega)) (hk.1 2 (by omega))
theorem m3 {p : Nat} : (3 : Int32) * nI p = nI (3 * p) := by rw [show (3 : Int32) = nI 3 by decide, pk_mul]
theorem m3_1 {p : Nat} : nI p + (1 : Int32) = nI (p + 1) := nI_1 p
theorem m3_2 {p : Nat} : nI p + (2 : Int32) = nI (p + 2) := by rw [show (2 : Int32) = nI 2 by decide, nI_add]
theorem m_says {τ : z_Mem} {a : aS} {p k n : Nat} {o : Option Nat} {tv : zTV} (h : mM τ a) (hT : mT τ tv n) (hr : au a < n) (hk : k < 3) (hp : p < 6) (ho : ∀ j, o = some j → j < 6) : z_R (fX6_says (nI k) (nI p) (aOth o) τ) (fun r τ' => r = zb (tv (au a) k (aEnv a p o)) ∧ mK τ τ') := by
  obtain ⟨g1, g2, g3, g4, g5, g6, g7⟩ := h
  have J : ∀ τ0 : z_Mem, mK τ τ0 → τ0.1 0 13 = as_ a p → z_R (fX6_says_j34 (nI k) (nI p) (aNx a o) τ0) (fun r τ' => r = zb (tv (au a) k (aEnv a p o)) ∧ mK τ τ') := by
    intro τ0 hK0 e130
    unfold fX6_says_j34
    simp only [z_st, m3]
    rw [z_gdT (z_inN (by omega) (by decide)), z_xN (by omega)]
    have hK : mK τ (z_pt τ0 0 14 (aNx a o)) := mK_tr hK0 (mK_pt (by omega))
    have e13 : (z_pt τ0 0 14 (aNx a o)).1 0 13 = as_ a p := by rw [z_pt_2 (by decide)]; exact e130
    have e14 : (z_pt τ0 0 14 (aNx a o)).1 0 14 = aNx a o := z_pt_1
    generalize z_pt τ0 0 14 (aNx a o) = τ1 at hK e13 e14 ⊢
    generalize hs : z_pt (z_pt (z_pt (z_pt τ1 0 15 (τ1.1 4 (3 * p))) 0 16 ((z_pt τ1 0 15 (τ1.1 4 (3 * p))).1 0 7)) 0 17 ((z_pt (z_pt τ1 0 15 (τ1.1 4 (3 * p))) 0 16 ((z_pt τ1 0 15 (τ1.1 4 (3 * p))).1 0 7)).1 0 8)) 0 18 ((z_pt (z_pt (z_pt τ1 0 15 (τ1.1 4 (3 * p))) 0 16 ((z_pt τ1 0 15 (τ1.1 4 (3 * p))).1 0 7)) 0 17 ((z_pt (z_pt τ1 0 15 (τ1.1 4 (3 * p))) 0 16 ((z_pt τ1 0 15 (τ1.1 4 (3 * p))).1 0 7)).1 0 8)).1 0 12) = s
    have hKs : mK τ s := by
      rw [← hs]
      exact mK_tr (mK_tr (mK_tr (mK_tr hK (mK_pt (by omega))) (mK_pt (by omega))) (mK_pt (by omega))) (mK_pt (by omega))
    have r4 : τ1.1 4 = τ.1 4 := hK.1 4 (by omega)
    have f13 : s.1 0 13 = as_ a p := by rw [← hs, z_pt_2 (by decide), z_pt_2 (by decide), z_pt_2 (by decide), z_pt_2 (by decide)]; exact e13
    have f14 : s.1 0 14 = aNx a o := by rw [← hs, z_pt_2 (by decide), z_pt_2 (by decide), z_pt_2 (by decide), z_pt_2 (by decide)]; exact e14
    have f15 : s.1 0 15 = am a p := by rw [← hs, z_pt_2 (by decide), z_pt_2 (by decide), z_pt_2 (by decide), z_pt_1, r4]; exact (g6 p hp).2.1
    have f16 : s.1 0 16 = ah a := by rw [← hs, z_pt_2 (by decide), z_pt_2 (by decide), z_pt_1, z_pt_2 (by decide), hK.2 7 (by omega)]; exact g3
    have f17 : s.1 0 17 = ac a := by rw [← hs, z_pt_2 (by decide), z_pt_1, z_pt_2 (by decide), z_pt_2 (by decide), hK.2 8 (by omega)]; exact g4
    have f18 : s.1 0 18 = nI (ar a).length := by rw [← hs, z_pt_1, z_pt_2 (by decide), z_pt_2 (by decide), z_pt_2 (by decide), hK.2 12 (by omega)]; exact g2
    have f4 : s.1 0 4 = nI (au a) := by rw [hKs.2 4 (by omega)]; exact g5
    rw [f4]
    refine z_R_bd (hT.2.2 (au a) hr k hk s (fun i _ => by rw [hKs.1 1 (by omega)]) (fun i _ => by rw [hKs.1 2 (by omega)])) (fun r s2 hq => ?_)
    refine z_R_bdE m_within (z_R_some ⟨?_, mK_tr hKs hq.2.1⟩)
    rw [hq.1]
    congr 2
    funext q
    unfold aEnv zSix
    rcases (show q = 0 ∨ q = 1 ∨ q = 2 ∨ q = 3 ∨ q = 4 ∨ 5 ≤ q by omega) with rfl | rfl | rfl | rfl | rfl | hq5
    · exact f13
    · exact f14
    · exact f15
    · exact f16
    · exact f17
    · rw [if_neg (by omega), if_neg (by omega), if_neg (by omega), if_neg (by omega), if_neg (by omega), if_neg (by omega)]
      exact f18
  unfold fX6_says
  rw [m3, m3_1, z_gdT (z_inN (by omega) (by decide)), z_xN (by omega)]
  simp only [z_st]
  match o, ho, J with
  | none, _, J =>
    refine z_R_if (fun _ => J _ (mK_pt (by omega)) ?_) (fun h => absurd rfl h)
    rw [z_pt_1]; exact (g6 p hp).2.2
  | some j, ho, J =>
    have hj := ho j rfl
    show z_R (if nI j = (-1 : Int32) then _ else _) _
    refine z_R_if (fun h => absurd h ?_) (fun _ => ?_)
    · intro e
      have := nI_pos (n := j) (by omega)
      rw [e] at this
      exact this (by decide)
    · show z_R (z_gd (z_in (3 * nI j + 1) 18) (fX6_says_j34 (nI k) (nI p) ((z_pt τ 0 13 (τ.1 4 (3 * p + 1))).1 4 (z_x (3 * nI j + 1))) (z_pt τ 0 13 (τ.1 4 (3 * p + 1))))) _
      simp only [m3, m3_1]
      rw [z_gdT (z_inN (by omega) (by decide)), z_xN (by omega), z_pt_3 (by decide), (g6 j hj).2.2]
      refine J _ (mK_pt (by omega)) ?_
      rw [z_pt_1]; exact (g6 p hp).2.2
theorem m_gripsOf {τ : z_Mem} {p q n : Nat} {a : aS} {tv : zTV} (h : mM τ a) (hw : aW a) (hT : mT τ tv n) (hr : au a < n) (hp : p < an a) (hq : q < an a) : z_R (fX6_gripsOf (nI p) (nI q) τ) (fun r τ' => r = gGrip tv a p q ∧ mK τ τ') := by
  have h6 := hw.1
  obtain ⟨g1, g2, g3, g4, g5, g6, g7⟩ := id h
  have hp6 := g6 p (by omega)
  have hq6 := g6 q (by omega)
  have J : ak a p ≠ 5 → ¬ (ak a p = 3 ∧ am a p = am a q) → z_R (fX6_gripsOf_j61 (nI p) (nI q) (ak a p) τ) (fun r τ' => r = gGrip tv a p q ∧ mK τ τ') := by
    intro n5 n3
    unfold fX6_gripsOf_j61
    have e0 := m_says (k := 0) (o := some q) h hT hr (by decide) (show p < 6 by omega) (fun j e => by cases e; omega)
    refine z_R_bd e0 (fun v s hv => ?_)
    obtain ⟨ev, hk⟩ := hv
    have hM := mM_kept h hk
    obtain ⟨k1, k2, k3, k4, k5, k6, k7⟩ := id hM
    simp only [m3, m3_2]
    rw [z_gdT (z_inN (by omega) (by decide)), z_xN (by omega), (k6 q (by omega)).1]
    have J2 : ∀ b : Int32, b = gBr a q v → z_R (fX6_gripsOf_j103 (nI p) (ak a p) v b s) (fun r τ' => r = gGrip tv a p q ∧ mK τ τ') := by
      intro b hb
      unfold fX6_gripsOf_j103
      simp only [m3]
      rw [z_gdT (z_inN (by omega) (by decide)), z_xN (by omega), (k6 p (by omega)).2.1, k3]
      unfold gGrip
      refine z_R_if (fun c1 => ?_) (fun c1 => ?_)
      · rw [if_pos c1]
        exact z_R_bdE m_within (z_R_some ⟨by rw [hb, ev], hk⟩)
      · rw [if_neg c1]
        refine z_R_if (fun c3 => ?_) (fun c3 => ?_)
        · rw [if_neg (by rw [c3]; decide), if_pos c3, if_neg (fun e => n3 ⟨c3, e⟩)]
          exact z_R_bdE m_within (z_R_some ⟨by rw [hb, ev], hk⟩)
        · refine z_R_if (fun c2 => ?_) (fun c2 => ?_)
          · rw [if_pos c2]
            exact z_R_bdE m_within (z_R_some ⟨by rw [ev], hk⟩)
          · rw [if_neg c2, if_neg c3]
            refine z_R_if (fun c4 => ?_) (fun c4 => ?_)
            · rw [if_pos c4]
              exact z_R_bdE (m_within20 hw.2.2.2.2.2.1.1) (z_R_bdE m_within (z_R_some ⟨by rw [ev], hk⟩))
            · rw [if_neg c4, if_neg n5]
              exact z_R_bdE m_within (z_R_some ⟨by rw [ev, zb_zb], hk⟩)
    refine z_R_if (fun c1 => J2 _ ?_) (fun c1 => z_R_if (fun c3 => J2 _ ?_) (fun c3 => J2 _ ?_))
    · unfold gBr; rw [if_pos (Or.inl c1)]
    · unfold gBr; rw [if_pos (Or.inr c3)]
    · unfold gBr; rw [if_neg (fun e => e.elim c1 c3)]
  unfold fX6_gripsOf
  simp only [m3, m3_2, m3_1]
  rw [z_gdT (z_inN (by omega) (by decide)), z_xN (by omega), hp6.1]
  refine z_R_if (fun c5 => ?_) (fun c5 => ?_)
  · rw [if_pos c5, z_gdT (z_inN (by omega) (by decide)), z_xN (by omega), hp6.2.2]
    refine z_R_some ⟨?_, mK_rf⟩
    unfold gGrip
    rw [c5]
    rfl
  · refine z_R_if (fun c3 => ?_) (fun c3 => J c5 (fun e => c3 e.1))
    rw [z_gdT (z_inN (by omega) (by decide)), z_gdT (z_inN (by omega) (by decide)), z_xN (by omega), z_xN (by omega), hp6.2.1, hq6.2.1]
    refine z_R_if (fun c => ?_) (fun c => J c5 (fun e => c e.2))
    rw [if_neg c5]
    refine z_R_some ⟨?_, mK_rf⟩
    unfold gGrip
    rw [if_neg (by rw [c3]; decide), if_neg (by rw [c3]; decide), if_pos c3, if_pos c]
theorem m_handsOf {τ : z_Mem} {p n : Nat} {a : aS} {tv : zTV} {x : Int32} (h : mM τ a) (hw : aW a) (hT : mT τ tv n) (hr : au a < n) (hp : p < an a) (hx : 0 ≤ x.toInt ∧ x.toInt ≤ 99) : z_R (fX6_handsOf (nI p) x τ) (fun r τ' => r = gHand tv a p x ∧ mK τ τ') := by
  have h6 := hw.1
  obtain ⟨g1, g2, g3, g4, g5, g6, g7⟩ := id h
  have hp6 := g6 p (by omega)
  have J : ak a p ≠ 1 → ¬ (ak a p = 3 ∧ ah a - ah a / 2 * 2 = 0) → ¬ (ak a p = 4 ∧ ¬ 5 ≤ x) → z_R (fX6_handsOf_j42 (nI p) x (ak a p) τ) (fun r τ' => r = gHand tv a p x ∧ mK τ τ') := by
    intro n1 n3 n4
    unfold fX6_handsOf_j42
    have e0 := m_says (k := 1) (o := none) h hT hr (by decide) (show p < 6 by omega) (fun j e => by cases e)
    refine z_R_bd e0 (fun v s hv => ?_)
    obtain ⟨ev, hk⟩ := hv
    unfold gHand
    rw [if_neg n1]
    refine z_R_if (fun c2 => ?_) (fun c2 => ?_)
    · rw [if_pos c2]
      exact z_R_bdE m_within (z_R_some ⟨by rw [ev], hk⟩)
    · rw [if_neg c2]
      refine z_R_if (fun c4 => ?_) (fun c4 => ?_)
      · rw [if_neg (by rw [c4]; decide), if_pos c4, if_pos (Classical.byContradiction fun e => n4 ⟨c4, e⟩)]
        exact z_R_bdE m_within (z_R_some ⟨by rw [ev], hk⟩)
      · refine z_R_if (fun c5 => ?_) (fun c5 => ?_)
        · rw [if_neg (by rw [c5]; decide), if_neg c4, if_pos c5]
          exact z_R_bdE m_within (z_R_some ⟨by rw [ev], hk⟩)
        · rw [if_neg c4, if_neg c5]
          by_cases c3 : ak a p = 3
          · rw [if_pos c3, if_neg (fun e => n3 ⟨c3, e⟩)]
            exact z_R_bdE m_within (z_R_some ⟨by rw [ev], hk⟩)
          · rw [if_neg c3]
            exact z_R_bdE m_within (z_R_some ⟨by rw [ev], hk⟩)
  unfold fX6_handsOf
  simp only [m3, m3_2]
  rw [z_gdT (z_inN (by omega) (by decide)), z_xN (by omega), hp6.1, g3]
  have hxx : x = zb x := (zb_id hx).symm
  refine z_R_if (fun c1 => ?_) (fun c1 => ?_)
  · refine z_R_some ⟨?_, mK_rf⟩
    unfold gHand
    rw [if_pos c1]; exact hxx
  · refine z_R_if (fun c3 => ?_) (fun c3 => ?_)
    · refine z_R_if (fun c => ?_) (fun c => ?_)
      · refine z_R_some ⟨?_, mK_rf⟩
        unfold gHand
        rw [if_neg c1, if_neg (by rw [c3]; decide), if_pos c3, if_pos c]; exact hxx
      · rw [if_neg (by rw [c3]; decide)]
        exact J c1 (fun e => c e.2) (fun e => by rw [c3] at e; exact absurd e.1 (by decide))
    · refine z_R_if (fun c4 => ?_) (fun c4 => J c1 (fun e => c3 e.1) (fun e => c4 e.1))
      refine z_R_if (fun c => J c1 (fun e => c3 e.1) (fun e => e.2 c)) (fun c => ?_)
      refine z_R_some ⟨?_, mK_rf⟩
      unfold gHand
      rw [if_neg c1, if_neg (by rw [c4]; decide), if_neg c3, if_pos c4, if_neg c]; exact hxx
theorem m_spentOf {τ : z_Mem} {p n : Nat} {a : aS} {tv : zTV} (h : mM τ a) (hw : aW a) (hT : mT τ tv n) (hr : au a < n) (hp : p < an a) : z_R (fX6_spentOf (nI p) τ) (fun r τ' => r = gSpent tv a p ∧ mK τ τ') := by
  have h6 := hw.1
  obtain ⟨g1, g2, g3, g4, g5, g6, g7⟩ := id h
  have hp6 := g6 p (by omega)
  obtain ⟨kk, hkk, ek⟩ := zKind hw (show p < 6 by omega)
  have J : ak a p ≠ 5 → ¬ (ak a p = 4 ∧ ac a ≤ 20) → z_R (fX6_spentOf_j32 (nI p) (ak a p) τ) (fun r τ' => r = gSpent tv a p ∧ mK τ τ') := by
    intro n5 n4
    unfold fX6_spentOf_j32
    have e0 := m_says (k := 2) (o := none) h hT hr (by decide) (show p < 6 by omega) (fun j e => by cases e)
    refine z_R_bd e0 (fun v s hv => ?_)
    obtain ⟨ev, hk⟩ := hv
    obtain ⟨m, hm, em⟩ := zb_N (tv (au a) 2 (aEnv a p none))
    have hh : zb (v / 2) = v / 2 := by
      rw [ev]
      apply zb_id
      rw [em, show (2 : Int32) = nI 2 by decide, pk_div (by omega) (by omega) (by omega), nI_toInt (by omega)]
      omega
    unfold gSpent
    refine z_R_if (fun c1 => ?_) (fun c1 => ?_)
    · rw [if_pos c1]
      exact z_R_bdE m_within (z_R_some ⟨by rw [hh, ev], hk⟩)
    · rw [if_neg c1]
      refine z_R_if (fun c3 => ?_) (fun c3 => ?_)
      · rw [if_neg (by rw [c3]; decide), if_pos c3]
        exact z_R_bdE m_within (z_R_some ⟨by rw [hh, ev], hk⟩)
      · refine z_R_if (fun c0 => ?_) (fun c0 => ?_)
        · rw [if_neg (by rw [c0]; decide), if_neg c3, if_neg (by rw [c0]; decide), if_neg n5]
          exact z_R_bdE m_within (z_R_some ⟨by rw [ev, zb_zb], hk⟩)
        · by_cases c2 : ak a p = 2
          · rw [if_pos c2]
            exact z_R_bdE m_within (z_R_some ⟨by rw [ev], hk⟩)
          · have c4 : ak a p = 4 := by
              rw [ek] at c0 c1 c2 c3 n5 ⊢
              rcases (show kk = 0 ∨ kk = 1 ∨ kk = 2 ∨ kk = 3 ∨ kk = 4 ∨ kk = 5 by omega) with rfl | rfl | rfl | rfl | rfl | rfl
              · exact absurd rfl c0
              · exact absurd rfl c1
              · exact absurd rfl c2
              · exact absurd rfl c3
              · rfl
              · exact absurd rfl n5
            rw [if_neg c2, if_neg c3, if_pos c4, if_neg (fun e => n4 ⟨c4, e⟩)]
            exact z_R_bdE m_within (z_R_some ⟨by rw [ev], hk⟩)
  unfold fX6_spentOf
  simp only [m3, m3_2]
  rw [z_gdT (z_inN (by omega) (by decide)), z_xN (by omega), hp6.1, g4]
  refine z_R_if (fun c5 => ?_) (fun c5 => ?_)
  · refine z_R_some ⟨?_, mK_rf⟩
    unfold gSpent
    rw [c5]; rfl
  · refine z_R_if (fun c4 => ?_) (fun c4 => J c5 (fun e => c4 e.1))
    refine z_R_if (fun c => J c5 (fun e => ?_)) (fun c => ?_)
    · have := e.2
      rw [Int32.le_iff_toInt_le] at c this
      have h1 : (21 : Int32).toInt = 21 := rfl
      have h2 : (20 : Int32).toInt = 20 := rfl
      omega
    · refine z_R_some ⟨?_, mK_rf⟩
      unfold gSpent
      rw [c4]
      have : ac a ≤ 20 := by
        rw [Int32.le_iff_toInt_le] at c ⊢
        have h1 : (21 : Int32).toInt = 21 := rfl
        have h2 : (20 : Int32).toInt = 20 := rfl
        omega
      rw [if_pos this]
      rfl
