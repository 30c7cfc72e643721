/-! let, letsIn, film -/
theorem z_insEr : ∀ (l : List Nat) (i : Nat) (hi : i < l.length), (l.eraseIdx i).insertIdx i l[i] = l
  | x :: l, 0, _ => rfl
  | x :: l, i + 1, h => by
    have := z_insEr l i (by simpa using h)
    simpa using this
theorem aEnter_Leave {a : aS} {i : Nat} (hi : i < (ar a).length) : aEnter (aLeave a i) ((ar a).getD i 0) i = a := by
  unfold aEnter aLeave
  have : ((ar a).eraseIdx i).insertIdx i ((ar a).getD i 0) = ar a := by
    rw [z_getD hi]
    exact z_insEr _ i hi
  show (an a, ((ar a).eraseIdx i).insertIdx i ((ar a).getD i 0), ak a, am a, as_ a, ah a, ac a, au a) = a
  rw [this]
theorem aLeave_Enter {a : aS} {p i : Nat} (hi : i ≤ (ar a).length) : aLeave (aEnter a p i) i = a := by
  show (an a, ((ar a).insertIdx i p).eraseIdx i, ak a, am a, as_ a, ah a, ac a, au a) = a
  rw [List.eraseIdx_insertIdx_self]
theorem mR_rf {τ : z_Mem} : mR τ τ := ⟨fun _ _ _ _ _ _ _ => rfl, fun _ _ => rfl⟩
theorem zScr_lv {σ σ' : z_Mem} (h : cK (fun k => k = 12 ∨ k = 12 + 4) σ σ') : cK zScr σ σ' := cK_mono h (fun k hk => by unfold zScr; omega)
theorem zScr_tk {σ σ' : z_Mem} (h : cK (fun k => 12 ≤ k ∧ k ≤ 12 + 4) σ σ') : cK zScr σ σ' := cK_mono h (fun k hk => by unfold zScr; omega)
section ZPUB16
theorem q_let {w : Int32} {g : zG} (hw : gW g) : ∀ (m q i : Nat) (b h : Int32) (σ τ : z_Mem), cG σ g → mG τ g → i + m = an (gA g) → m < q → zSame (fX5_let_19 q w b h (nI i) σ) (fX6_let_20 q w b h (nI i) τ)
  | m, 0, i, b, h, σ, τ, _, _, _, h' => absurd h' (Nat.not_lt_zero _)
  | 0, q + 1, i, b, h, σ, τ, hc, hm, hi, hq => by
    have h6 := hw.1.1.1
    rw [fX5_let_19, fX6_let_20, hc.1.1, hm.1.1, if_pos (nI_le (by omega) (by omega)), if_pos (nI_le (by omega) (by omega))]
    split
    · exact zSame_ret hc hm hw
    · exact zSame_ret hc hm hw
  | m + 1, q + 1, i, b, h, σ, τ, hc, hm, hi, hq => by
    have hA := hw.1.1
    have h6 := hA.1
    have hl := aW_len hA
    rw [fX5_let_19, fX6_let_20, hc.1.1, hm.1.1, hc.1.2.1, hm.1.2.1, if_neg (nI_ge (by omega) (by omega)), if_neg (nI_ge (by omega) (by omega))]
    by_cases h2 : (ar (gA g)).length ≤ 2
    · have h2' : nI (ar (gA g)).length ≤ 2 := by rw [show (2 : Int32) = nI 2 by decide]; exact nI_le h2 (by decide)
      rw [if_pos h2', if_pos h2']
      split
      · exact zSame_ret hc hm hw
      · exact zSame_ret hc hm hw
    have h2' : ¬ nI (ar (gA g)).length ≤ 2 := by rw [show (2 : Int32) = nI 2 by decide]; exact nI_ge (by omega) (by omega)
    rw [if_neg h2', if_neg h2', z_bdE (c_placeOf hc.1 hA), z_bdE (m_placeOf hm.1 hA), nI_1]
    rcases apl_some (x := nI i) (l := ar (gA g)) (k := 0) with ⟨e, _⟩ | ⟨j, hj, e, e'⟩
    · rw [e, if_pos rfl, if_pos rfl]
      exact q_let hw m q (i + 1) b h σ τ hc hm (by omega) (by omega)
    · rw [Nat.zero_add] at e
      have ej : (ar (gA g)).getD j 0 = i := by
        have := aR_lt hA hj
        have := (z_eq_nI (by omega) (by omega)).mp e'
        omega
      have hne : ¬ nI j = (-1 : Int32) := nI_neg1 (by omega)
      rw [e, if_neg hne, if_neg hne]
      obtain ⟨s1, f1, c1, k1⟩ := c_takeFrom (c := 12) (b := 7) hc.1 hA (by omega)
      obtain ⟨s2, f2, c2, k2⟩ := c_leave c1 hA hj
      have hc2 : cG s2 g := cG_k (cG_k hc (zScr_tk k1)) (zScr_lv k2)
      obtain ⟨r3, s3, f3, v3, k3⟩ := c_weakest c2 (aLeave_W hA) hc2.2.2.1 hw.1.2.1 (by decide)
      have hc3 := cG_k hc2 (cK_4 k3)
      obtain ⟨t1, g1, m1, n1⟩ := m_closesUp hm.1 hA hj
      obtain ⟨r4, t2, g2, v4, n2⟩ := m_weakest m1 (aLeave_W hA) (mT_c hm.2.2.1 n1) hw.1.2.1
      have hlen : (ar (aLeave (gA g) j)).length = (ar (gA g)).length - 1 := by
        show ((ar (gA g)).eraseIdx j).length = _
        rw [List.length_eraseIdx, if_pos hj]
      obtain ⟨t3, g3, m3, n3⟩ := m_stands (p := i) (i := j) (mM_kept m1 n2) (by rw [hlen]; omega) (by rw [hlen]; omega)
      rw [← ej, aEnter_Leave hj] at m3
      have hm3 : mG t3 g := mG_a hm (mR_tr (mR_c n1) (mR_tr (mR_k n2) (mR_c n3))) m3
      rw [z_bdE f1, z_bdE f2, z_bdE f3, z_bdE g1, z_bdE g2, z_bdE g3, v3, v4]
      by_cases hh : gWeak (gV g) (aLeave (gA g) j) ≤ h
      · rw [if_pos hh, if_pos hh]
        exact q_let hw m q (i + 1) _ _ s3 t3 hc3 hm3 (by omega) (by omega)
      · rw [if_neg hh, if_neg hh]
        exact q_let hw m q (i + 1) _ _ s3 t3 hc3 hm3 (by omega) (by omega)
theorem q_letsIn {w : Int32} {g : zG} (hw : gW g) {p : Nat} (hp : p < an (gA g)) (hn : ¬ p ∈ ar (gA g)) : ∀ (m q i : Nat) (b h : Int32) (σ τ : z_Mem), cG σ g → mG τ g → i + m = (ar (gA g)).length + 1 → m < q → zSame (fX5_letsIn_46 q (nI p) w b h (nI i) σ) (fX6_letsIn_47 q (nI p) w b h (nI (ar (gA g)).length) (nI i) τ)
  | m, 0, i, b, h, σ, τ, _, _, _, h' => absurd h' (Nat.not_lt_zero _)
  | 0, q + 1, i, b, h, σ, τ, hc, hm, hi, hq => by
    have hl := aW_len hw.1.1
    rw [fX5_letsIn_46, fX6_letsIn_47, hc.1.2.1, if_pos (nI_lt (by omega) (by omega)), if_pos (nI_lt (by omega) (by omega))]
    split
    · exact zSame_ret hc hm hw
    · exact zSame_ret hc hm hw
  | m + 1, q + 1, i, b, h, σ, τ, hc, hm, hi, hq => by
    have hA := hw.1.1
    have hl6 := aEnter_len hA hp hn
    have hi' : i ≤ (ar (gA g)).length := by omega
    rw [fX5_letsIn_46, fX6_letsIn_47, hc.1.2.1, if_neg (nI_nlt (by omega) (by omega)), if_neg (nI_nlt (by omega) (by omega)), nI_1]
    have hW := aEnter_W hA hp hn hi'
    obtain ⟨s1, f1, c1, k1⟩ := c_takeFrom (c := 12) (b := 7) hc.1 hA (by omega)
    obtain ⟨s2, f2, c2, k2⟩ := c_enter (p := p) c1 hl6 hi'
    have hc2 : cG s2 g := cG_k (cG_k hc (zScr_tk k1)) (zScr_lv k2)
    obtain ⟨r3, s3, f3, v3, k3⟩ := c_weakest c2 hW hc2.2.2.1 hw.1.2.1 (by decide)
    have hc3 := cG_k hc2 (cK_4 k3)
    obtain ⟨t1, g1, m1, n1⟩ := m_stands (p := p) hm.1 hl6 hi'
    obtain ⟨r4, t2, g2, v4, n2⟩ := m_weakest m1 hW (mT_c hm.2.2.1 n1) hw.1.2.1
    have hlen : i < (ar (aEnter (gA g) p i)).length := by
      show i < ((ar (gA g)).insertIdx i p).length
      rw [List.length_insertIdx, if_pos hi']
      omega
    obtain ⟨t3, g3, m3, n3⟩ := m_closesUp (mM_kept m1 n2) hW hlen
    rw [aLeave_Enter hi'] at m3
    have hm3 : mG t3 g := mG_a hm (mR_tr (mR_c n1) (mR_tr (mR_k n2) (mR_c n3))) m3
    rw [z_bdE f1, z_bdE f2, z_bdE f3, z_bdE g1, z_bdE g2, z_bdE g3, v3, v4]
    by_cases hh : gWeak (gV g) (aEnter (gA g) p i) ≤ h
    · rw [if_pos hh, if_pos hh]
      exact q_letsIn hw hp hn m q (i + 1) _ _ s3 t3 hc3 hm3 (by omega) (by omega)
    · rw [if_neg hh, if_neg hh]
      exact q_letsIn hw hp hn m q (i + 1) _ _ s3 t3 hc3 hm3 (by omega) (by omega)
variable {σ τ : z_Mem} {g : zG}
theorem p_let (hc : cG σ g) (hm : mG τ g) (hw : gW g) (x : Int32) : zSame (fX5_let x σ) (fX6_let x τ) := by
  have h6 := hw.1.1.1
  unfold fX5_let fX6_let
  rw [z_bdE m_in, show (0 : Int64).toInt = 0 from rfl, show (1 : Int64).toInt = 1 from rfl]
  by_cases h1 : x = 0 ∨ x = 1
  · rw [if_pos (z_01.mpr h1), if_neg z_10]
    have Q := q_let (w := x) hw (an (gA g)) z_FU 0 (-1) (-1) σ τ hc hm (by omega) (by simp only [z_FU]; omega)
    rw [nI_0] at Q
    by_cases e : x = 0
    · rw [if_pos e]; exact Q
    · rw [if_neg e, if_pos (h1.resolve_left e)]; exact Q
  · rw [if_neg (fun h => h1 (z_01.mp h)), if_pos rfl, if_neg (fun h => h1 (Or.inl h)), if_neg (fun h => h1 (Or.inr h))]
    exact zSame_ret hc hm hw
theorem p_letsIn (hc : cG σ g) (hm : mG τ g) (hw : gW g) (x y : Int32) : zSame (fX5_letsIn x y σ) (fX6_letsIn x y τ) := by
  have hA := hw.1.1
  have h6 := aW_len hA
  unfold fX5_letsIn fX6_letsIn
  rw [z_bdE (c_has hc.1 hA), z_bdE (m_isOne hm.1 hA)]
  by_cases h1 : 0 ≤ x.toInt ∧ x.toInt < an (gA g)
  rotate_left
  · simp only [if_neg h1, if_true]
    exact zSame_ret hc hm hw
  simp only [if_pos h1, if_neg z_10]
  rw [z_bdE m_in, show (0 : Int64).toInt = 0 from rfl, show (1 : Int64).toInt = 1 from rfl]
  by_cases h2 : y = 0 ∨ y = 1
  · rw [if_pos (z_01.mpr h2), if_neg z_10, z_bdE (c_placeOf hc.1 hA), z_bdE (m_placeOf hm.1 hA)]
    have Q : zSame (if apl (ar (gA g)) x 0 = (-1 : Int32) then (fX5_letsIn_46 z_FU x y (-1 : Int32) (-1 : Int32) (1 : Int32) σ) else (some ((-3 : Int32), σ))) (if apl (ar (gA g)) x 0 = (-1 : Int32) then (fX6_letsIn_47 z_FU x y (-1 : Int32) (-1 : Int32) (τ.1 0 12) (1 : Int32) τ) else (some ((-3 : Int32), τ))) := by
      rcases apl_some (x := x) (l := ar (gA g)) (k := 0) with ⟨e, hn⟩ | ⟨i, hi, e, _⟩
      · rw [if_pos e, if_pos e, hm.1.2.1]
        obtain ⟨p, hp, rfl⟩ := z_ofI h1
        exact q_letsIn (w := y) hw hp (fun q => hn p q rfl) (ar (gA g)).length z_FU 1 (-1) (-1) σ τ hc hm (by omega) (by simp only [z_FU]; omega)
      · rw [Nat.zero_add] at e
        have hne : ¬ apl (ar (gA g)) x 0 = (-1 : Int32) := by rw [e]; exact nI_neg1 (by omega)
        rw [if_neg hne, if_neg hne]
        exact zSame_ret hc hm hw
    by_cases e : y = 0
    · rw [if_pos e]; exact Q
    · rw [if_neg e, if_pos (h2.resolve_left e)]; exact Q
  · rw [if_neg (fun h => h2 (z_01.mp h)), if_pos rfl, if_neg (fun h => h2 (Or.inl h)), if_neg (fun h => h2 (Or.inr h))]
    exact zSame_ret hc hm hw
end ZPUB16
