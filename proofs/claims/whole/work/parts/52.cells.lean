/-! cell, copy -/
def zCut (k : Nat) (v : Int32) : Int32 := if k = 0 then v.toInt8.toInt32 else if k = 1 then v.toInt16.toInt32 else v
theorem c_shHas {c n : Nat} {x : Int32} {σ : z_Mem} (h : σ.1 c 2 = nI n) (hn : n ≤ 40) : fX3_has c x σ = some (if 0 ≤ x.toInt ∧ x.toInt < n then 1 else 0, σ) := by
  unfold fX3_has
  rw [h]
  simp only [Int32.lt_iff_toInt_lt, Int32.le_iff_toInt_le, nI_toInt (show n < 2 ^ 31 by omega), show (0 : Int32).toInt = 0 from rfl, show (40 : Int32).toInt = 40 from rfl]
  repeat' split
  all_goals first | rfl | omega
theorem c_shRun {c n : Nat} {x y : Int32} {σ : z_Mem} (h : σ.1 c 2 = nI n) (hn : n ≤ 40) : fX3_hasRun c x y σ = some (if 0 ≤ x.toInt ∧ 0 ≤ y.toInt ∧ x.toInt + y.toInt ≤ n then 1 else 0, σ) := by
  unfold fX3_hasRun
  rw [h]
  by_cases h0 : x < 0
  · rw [if_pos h0, if_neg (by rw [z_ge0] at h0; omega)]
  rw [if_neg h0]
  by_cases h1 : y < 0
  · rw [if_pos h1, if_neg (by rw [z_ge0] at h1; omega)]
  rw [if_neg h1]
  rw [z_ge0] at h0 h1
  by_cases h2 : nI n < y
  · rw [if_pos h2, if_neg (by rw [Int32.lt_iff_toInt_lt, nI_toInt (by omega)] at h2; omega)]
  rw [if_neg h2]
  rw [Int32.lt_iff_toInt_lt, nI_toInt (by omega)] at h2
  have e : (nI n - y).toInt = n - y.toInt := by
    rw [Int32.toInt_sub, nI_toInt (by omega), Int.bmod_eq_of_le (by omega) (by omega)]
  simp only [Int32.lt_iff_toInt_lt, e]
  by_cases h3 : (n : Int) - y.toInt < x.toInt
  · rw [if_pos h3, if_neg (by omega)]
  · rw [if_neg h3, if_pos (by omega)]
theorem c_shRunT {c n : Nat} {x y : Int32} {σ : z_Mem} (h : σ.1 c 2 = nI n) (hn : n ≤ 40) (q : 0 ≤ x.toInt ∧ 0 ≤ y.toInt ∧ x.toInt + y.toInt ≤ n) : fX3_hasRun c x y σ = some (1, σ) := by rw [c_shRun h hn, if_pos q]
theorem c_shRunF {c n : Nat} {x y : Int32} {σ : z_Mem} (h : σ.1 c 2 = nI n) (hn : n ≤ 40) (q : ¬ (0 ≤ x.toInt ∧ 0 ≤ y.toInt ∧ x.toInt + y.toInt ≤ n)) : fX3_hasRun c x y σ = some (0, σ) := by rw [c_shRun h hn, if_neg q]
theorem c_shPut {c n k i : Nat} {v : Int32} {σ : z_Mem} (h : σ.1 c 2 = nI n) (h1 : σ.1 c 1 = nI k) (hn : n ≤ 40) (hk : k ≤ 2) (hi : i < n) : fX3_put c (nI i) v σ = some ((), z_pt σ (c + 1) i (zCut k v)) := by
  unfold fX3_put zCut
  have h0 : 0 ≤ (nI i).toInt ∧ (nI i).toInt < (n : Int) := by rw [nI_toInt (by omega)]; omega
  rw [z_bdE (c_shHas h hn)]
  simp only [if_pos h0, if_neg z_10, h1]
  simp only [z_gdT (z_inN (show i < 40 by omega) (show 40 < 2 ^ 31 by decide)), z_st, z_xN (show i < 2 ^ 31 by omega)]
  rcases (show k = 0 ∨ k = 1 ∨ k = 2 by omega) with rfl | rfl | rfl <;> rfl
theorem z_getD_setI {l : List Int32} {i j : Nat} {v : Int32} (h : i < l.length) : (l.set i v).getD j 0 = if j = i then v else l.getD j 0 := by
  by_cases q : j = i
  · subst q
    simp [List.getD, h]
  · simp [List.getD, q, Ne.symm q]
theorem cSheet_set {σ : z_Mem} {s k i : Nat} {l : List Int32} {v : Int32} (h : cSheet σ s (some (k, l))) (hi : i < l.length) : cSheet (z_pt σ (28 + 2 * s + 1) i v) s (some (k, l.set i v)) := by
  refine ⟨?_, ?_, fun j hj => ?_⟩
  · rw [z_pt_3 (by omega)]; exact h.1
  · rw [z_pt_3 (by omega), List.length_set]; exact h.2.1
  · rw [List.length_set] at hj
    rw [z_getD_setI hi]
    by_cases e : j = i
    · rw [e, z_pt_1, if_pos rfl]
    · rw [z_pt_2 e, if_neg e]; exact h.2.2 j hj
theorem mSheet_set {τ : z_Mem} {s k i : Nat} {l : List Int32} {v : Int32} (h : mSheet τ s (some (k, l))) (hi : i < l.length) : mSheet (z_pt τ 14 (40 * s + i) v) s (some (k, l.set i v)) := by
  refine ⟨?_, ?_, ?_, fun j hj => ?_⟩
  · rw [z_pt_3 (by decide)]; exact h.1
  · rw [z_pt_3 (by decide)]; exact h.2.1
  · rw [z_pt_3 (by decide), List.length_set]; exact h.2.2.1
  · rw [List.length_set] at hj
    rw [z_getD_setI hi]
    by_cases e : j = i
    · rw [e, z_pt_1, if_pos rfl]
    · rw [z_pt_2 (by omega), if_neg e]; exact h.2.2.2 j hj
theorem mSf_pt {τ : z_Mem} {s i : Nat} {v : Int32} (hi : i < 40) : mSf τ (z_pt τ 14 (40 * s + i) v) s :=
  ⟨fun k a b c d => z_pt_r d, fun t ht e => ⟨z_pt_3 (by decide), z_pt_3 (by decide), z_pt_3 (by decide), fun j hj => z_pt_2 (by omega)⟩⟩
section ZPUB10
variable {σ τ : z_Mem} {g : zG}
theorem p_cell (hc : cG σ g) (hm : mG τ g) (hw : gW g) (x y v : Int32) : zSame (fX5_cell x y v σ) (fX6_cell x y v τ) := by
  unfold fX5_cell fX6_cell
  rw [z_bdE c_isSheet, z_bdE m_isSheet]
  by_cases h1 : 0 ≤ x.toInt ∧ x.toInt < (4 : Nat)
  · simp only [if_pos h1, if_neg z_10]
    obtain ⟨s, hs, rfl⟩ := z_ofI h1
    simp only [z_gdT (z_inN hs (show 4 < 2 ^ 31 by decide)), z_xN (show s < 2 ^ 31 by omega)]
    match hS : gS g s, hc.2.2.2.2 s hs, hm.2.2.2.2 s hs with
    | none, c5, m5 =>
      rw [if_pos c5.1, if_pos (show τ.1 11 s = 0 from m5)]
      exact zSame_ret hc hm hw
    | some (k, l), c5, m5 =>
      obtain ⟨hk, hl⟩ := hw.2.2.2.2.2 s k l hS
      rw [c5.1, m5.1, if_neg (nI_neg1 (by omega)), if_neg z_10, z_bdE (c_shHas c5.2.1 hl), m5.2.2.1, z_bdE m_in]
      have e1 : (((nI l.length) - (1 : Int32)).toInt64).toInt = (l.length : Int) - 1 := by
        rw [i64, Int32.toInt_sub, nI_toInt (by omega), show (1 : Int32).toInt = 1 from rfl, Int.bmod_eq_of_le (by omega) (by omega)]
      rw [e1, show (0 : Int64).toInt = 0 from rfl]
      by_cases h2 : 0 ≤ y.toInt ∧ y.toInt < l.length
      · rw [if_pos h2, if_pos (show 0 ≤ y.toInt ∧ y.toInt ≤ (l.length : Int) - 1 by omega), if_neg z_10, if_neg z_10]
        obtain ⟨i, hi, rfl⟩ := z_ofI h2
        rw [z_bdE (c_shPut c5.2.1 c5.1 hl hk hi), m5.2.1]
        simp only [m40, z_gdT (z_inN (show 40 * s + i < 160 by omega) (show 160 < 2 ^ 31 by decide)), z_st, z_xN (show 40 * s + i < 2 ^ 31 by omega)]
        have em : (if nI k = 0 then some ((1 : Int32), z_pt τ 14 (40 * s + i) v.toInt8.toInt32) else if nI k = 1 then some ((1 : Int32), z_pt τ 14 (40 * s + i) v.toInt16.toInt32) else some ((1 : Int32), z_pt τ 14 (40 * s + i) v)) = some (1, z_pt τ 14 (40 * s + i) (zCut k v)) := by
          unfold zCut
          rcases (show k = 0 ∨ k = 1 ∨ k = 2 by omega) with rfl | rfl | rfl <;> rfl
        rw [em]
        refine zSame_ret (cG_s (s := s) (x := some (k, l.set i (zCut k v))) hc (fun q hq => z_pt_r (by omega)) (cSheet_set c5 hi)) (mG_s hm hw (mSf_pt (by omega)).1 (mSf_pt (by omega)).2 (mSheet_set m5 hi)) (gW_s hw (fun k' l' q => ?_))
        cases q
        simp
        omega
      · rw [if_neg h2, if_neg (show ¬ (0 ≤ y.toInt ∧ y.toInt ≤ (l.length : Int) - 1) by omega), if_pos rfl, if_pos rfl]
        exact zSame_ret hc hm hw
  · simp only [if_neg h1, if_true]
    exact zSame_ret hc hm hw
end ZPUB10
/-- n of l from i on come to l' from j on -/
def zCopy (l l' : List Int32) (i j n : Nat) : List Int32 := (List.range l'.length).map (fun t => if j ≤ t ∧ t < j + n then l.getD (i + (t - j)) 0 else l'.getD t 0)
theorem zCopy_len {l l' : List Int32} {i j n : Nat} : (zCopy l l' i j n).length = l'.length := by simp [zCopy]
theorem z_map_getD {f : Nat → Int32} {N t : Nat} (h : t < N) : ((List.range N).map f).getD t 0 = f t := by
  simp [List.getD, h]
theorem m_copy_up {s i o j n : Nat} (hs : s < 4) (ho : o < 4) (hi : i + n ≤ 40) (hj : j + n ≤ 40) (hd : s ≠ o ∨ j ≤ i) : ∀ (m q k : Nat) (τ : z_Mem), k + m = n → m < q → fX6_copy_121 q (nI s) (nI i) (nI o) (nI j) (nI n) 0 (nI k) τ = some (nI n, z_cp τ 14 (fun p => if 40 * o + j + k ≤ p ∧ p < 40 * o + j + n then τ.1 14 (40 * s + i + (p - (40 * o + j))) else τ.1 14 p))
  | m, 0, k, τ, _, h => absurd h (Nat.not_lt_zero _)
  | 0, q + 1, k, τ, hk, _ => by
    have : k = n := by omega
    subst this
    rw [fX6_copy_121, if_pos (nI_le (Nat.le_refl _) (by omega))]
    have : (fun p => if 40 * o + j + k ≤ p ∧ p < 40 * o + j + k then τ.1 14 (40 * s + i + (p - (40 * o + j))) else τ.1 14 p) = τ.1 14 := funext fun p => if_neg (by omega)
    rw [this]
    refine congrArg some (Prod.ext rfl (Prod.ext ?_ rfl))
    funext k j
    show τ.1 k j = _
    rw [z_cp_f]
    by_cases e : k = 14
    · rw [if_pos e, e]
    · rw [if_neg e]
  | m + 1, q + 1, k, τ, hk, hq => by
    rw [fX6_copy_121, if_neg (nI_ge (by omega) (by omega)), if_pos rfl]
    simp only [m40, nI_add]
    rw [z_gdT (z_inN (by omega) (by decide)), z_gdT (z_inN (by omega) (by decide))]
    simp only [z_st]
    rw [z_xN (by omega), z_xN (by omega), nI_1, m_copy_up hs ho hi hj hd m q (k + 1) _ (by omega) (by omega), z_cp_pt]
    congr 3
    funext p
    by_cases e : p = 40 * o + j + k
    · subst e
      rw [if_neg (by omega), z_pt_1, if_pos (by omega)]
      exact congrArg (τ.1 14) (by omega)
    · rw [z_pt_2 e]
      by_cases e' : 40 * o + j + (k + 1) ≤ p ∧ p < 40 * o + j + n
      · rw [if_pos e', if_pos (by omega), z_pt_2 (by omega)]
      · rw [if_neg e', if_neg (by omega)]
theorem m_copy_dn {s i j n : Nat} (hs : s < 4) (hi : i + n ≤ 40) (hj : j + n ≤ 40) (hd : i < j) : ∀ (m q k : Nat) (τ : z_Mem), k + m = n → m < q → fX6_copy_121 q (nI s) (nI i) (nI s) (nI j) (nI n) 1 (nI k) τ = some (nI n, z_cp τ 14 (fun p => if 40 * s + j ≤ p ∧ p < 40 * s + j + m then τ.1 14 (40 * s + i + (p - (40 * s + j))) else τ.1 14 p))
  | m, 0, k, τ, _, h => absurd h (Nat.not_lt_zero _)
  | 0, q + 1, k, τ, hk, _ => by
    have : k = n := by omega
    subst this
    rw [fX6_copy_121, if_pos (nI_le (Nat.le_refl _) (by omega))]
    have : (fun p => if 40 * s + j ≤ p ∧ p < 40 * s + j + 0 then τ.1 14 (40 * s + i + (p - (40 * s + j))) else τ.1 14 p) = τ.1 14 := funext fun p => if_neg (by omega)
    rw [this]
    refine congrArg some (Prod.ext rfl (Prod.ext ?_ rfl))
    funext k j
    show τ.1 k j = _
    rw [z_cp_f]
    by_cases e : k = 14
    · rw [if_pos e, e]
    · rw [if_neg e]
  | m + 1, q + 1, k, τ, hk, hq => by
    have e1 : (nI n - (1 : Int32)) - nI k = nI m := by
      rw [show (1 : Int32) = nI 1 by decide, pk_sub (by omega), pk_sub (by omega)]
      congr 1
      omega
    rw [fX6_copy_121, if_neg (nI_ge (by omega) (by omega)), if_neg z_10]
    simp only [e1, m40, nI_add]
    rw [z_gdT (z_inN (by omega) (by decide)), z_gdT (z_inN (by omega) (by decide))]
    simp only [z_st]
    rw [z_xN (by omega), z_xN (by omega), nI_1, m_copy_dn hs hi hj hd m q (k + 1) _ (by omega) (by omega), z_cp_pt]
    congr 3
    funext p
    by_cases e : p = 40 * s + j + m
    · subst e
      rw [if_neg (by omega), z_pt_1, if_pos (by omega)]
      exact congrArg (τ.1 14) (by omega)
    · rw [z_pt_2 e]
      by_cases e' : 40 * s + j ≤ p ∧ p < 40 * s + j + m
      · rw [if_pos e', if_pos (by omega), z_pt_2 (by omega)]
      · rw [if_neg e', if_neg (by omega)]
section ZPUB11
variable {σ τ : z_Mem} {g : zG}
theorem p_copy (hc : cG σ g) (hm : mG τ g) (hw : gW g) (x y x' y' v : Int32) : zSame (fX5_copy x y x' y' v σ) (fX6_copy x y x' y' v τ) := by
  unfold fX5_copy fX6_copy
  rw [z_bdE c_isSheet, z_bdE m_isSheet]
  by_cases h1 : 0 ≤ x.toInt ∧ x.toInt < (4 : Nat)
  rotate_left
  · simp only [if_neg h1, if_true]
    exact zSame_ret hc hm hw
  simp only [if_pos h1, if_neg z_10]
  rw [z_bdE c_isSheet, z_bdE m_isSheet]
  by_cases h2 : 0 ≤ x'.toInt ∧ x'.toInt < (4 : Nat)
  rotate_left
  · simp only [if_neg h2, if_true]
    exact zSame_ret hc hm hw
  simp only [if_pos h2, if_neg z_10]
  obtain ⟨s, hs, rfl⟩ := z_ofI h1
  obtain ⟨o, ho, rfl⟩ := z_ofI h2
  simp only [z_gdT (z_inN hs (show 4 < 2 ^ 31 by decide)), z_xN (show s < 2 ^ 31 by omega), z_gdT (z_inN ho (show 4 < 2 ^ 31 by decide)), z_xN (show o < 2 ^ 31 by omega)]
  match hS : gS g s, hc.2.2.2.2 s hs, hm.2.2.2.2 s hs with
  | none, c5, m5 =>
    rw [if_pos c5.1, if_pos (show τ.1 11 s = 0 from m5)]
    exact zSame_ret hc hm hw
  | some (k, l), c5, m5 =>
    obtain ⟨hk, hl⟩ := hw.2.2.2.2.2 s k l hS
    have n1 : ¬ σ.1 (28 + 2 * s) 1 = -1 := by rw [c5.1]; exact nI_neg1 (by omega)
    have n2 : ¬ τ.1 11 s = 0 := by rw [m5.1]; exact z_10
    rw [if_neg n1, if_neg n2]
    match hO : gS g o, hc.2.2.2.2 o ho, hm.2.2.2.2 o ho with
    | none, d5, n5 =>
      rw [if_pos d5.1, if_pos (show τ.1 11 o = 0 from n5)]
      exact zSame_ret hc hm hw
    | some (k', l'), d5, n5 =>
      obtain ⟨hk', hl'⟩ := hw.2.2.2.2.2 o k' l' hO
      have n3 : ¬ σ.1 (28 + 2 * o) 1 = -1 := by rw [d5.1]; exact nI_neg1 (by omega)
      have n4 : ¬ τ.1 11 o = 0 := by rw [n5.1]; exact z_10
      rw [if_neg n3, if_neg n4, c5.1, d5.1, m5.2.1, n5.2.1]
      by_cases ek : k = k'
      rotate_left
      · have : ¬ nI k = nI k' := by rw [z_eq_nI (by omega) (by omega)]; exact ek
        rw [if_neg this, if_neg this]
        exact zSame_ret hc hm hw
      subst ek
      rw [if_pos rfl, if_pos rfl, m5.2.2.1, n5.2.2.1]
      have hbad : zSame (some ((-12 : Int32), σ)) (some ((-12 : Int32), τ)) := zSame_ret hc hm hw
      by_cases g1 : v < 0
      · have g1' := g1
        rw [z_ge0] at g1'
        rw [if_pos g1, z_bdE (c_shRunF c5.2.1 hl (by omega)), if_pos rfl]
        exact hbad
      rw [if_neg g1]
      by_cases g2 : y < 0
      · have g2' := g2
        rw [z_ge0] at g2'
        rw [if_pos g2, z_bdE (c_shRunF c5.2.1 hl (by omega)), if_pos rfl]
        exact hbad
      rw [if_neg g2]
      by_cases g3 : y' < 0
      · have g3' := g3
        rw [z_ge0] at g3'
        rw [if_pos g3, z_bdE (c_shRun c5.2.1 hl), z_bdE (c_shRunF d5.2.1 hl' (by omega)), if_pos rfl, ite_self]
        exact hbad
      rw [if_neg g3]
      obtain ⟨n, hn, rfl⟩ := nI_of g1
      obtain ⟨i, hi, rfl⟩ := nI_of g2
      obtain ⟨j, hj, rfl⟩ := nI_of g3
      have esub : ∀ L : Nat, L ≤ 40 → (nI L - nI n).toInt = (L : Int) - n := fun L hL => by
        rw [Int32.toInt_sub, nI_toInt (by omega), nI_toInt hn, Int.bmod_eq_of_le (by omega) (by omega)]
      simp only [Int32.lt_iff_toInt_lt (y := nI i), Int32.le_iff_toInt_le (x := nI j) (y := nI l'.length - nI n), esub l.length hl, esub l'.length hl', nI_toInt hi, nI_toInt hj]
      by_cases g4 : i + n ≤ l.length
      rotate_left
      · rw [z_bdE (c_shRunF c5.2.1 hl (by rw [nI_toInt hn, nI_toInt hi]; omega)), if_pos rfl, if_pos (by omega)]
        exact hbad
      rw [z_bdE (c_shRunT c5.2.1 hl (by rw [nI_toInt hn, nI_toInt hi]; omega)), if_neg z_10, if_neg (by omega)]
      by_cases g5 : j + n ≤ l'.length
      rotate_left
      · rw [z_bdE (c_shRunF d5.2.1 hl' (by rw [nI_toInt hn, nI_toInt hj]; omega)), if_pos rfl, if_neg (by omega)]
        exact hbad
      rw [z_bdE (c_shRunT d5.2.1 hl' (by rw [nI_toInt hn, nI_toInt hj]; omega)), if_neg z_10, if_pos (by omega)]
      rw [z_gdT ⟨nI_pos hi, nI_pos hj, nI_pos hn, by rw [z_xN hi, z_xN hn]; omega, by rw [z_xN hj, z_xN hn]; omega⟩, z_xN hn, z_xN hi, z_xN hj]
      simp only [z_st]
      have hW : gW (gSet g o (some (k, zCopy l l' i j n))) := gW_s hw (fun k2 l2 q => by
        cases q
        rw [zCopy_len]
        exact ⟨hk, hl'⟩)
      have hC : cG (z_ac σ (28 + 2 * s + 1) (28 + 2 * o + 1) i j n) (gSet g o (some (k, zCopy l l' i j n))) := by
        refine cG_s hc (fun q hq => z_ac_r (by omega)) ⟨?_, ?_, fun t ht => ?_⟩
        · rw [z_ac_r (by omega)]; exact d5.1
        · rw [z_ac_r (by omega), zCopy_len]; exact d5.2.1
        · rw [zCopy_len] at ht
          unfold zCopy
          rw [z_map_getD ht, z_ac_f, if_pos rfl]
          by_cases q : j ≤ t ∧ t < j + n
          · rw [if_pos q, if_pos q]; exact c5.2.2 _ (by omega)
          · rw [if_neg q, if_neg q]; exact d5.2.2 _ ht
      have hM : mG (z_cp τ 14 (fun p => if 40 * o + j ≤ p ∧ p < 40 * o + j + n then τ.1 14 (40 * s + i + (p - (40 * o + j))) else τ.1 14 p)) (gSet g o (some (k, zCopy l l' i j n))) := by
        refine mG_s hm hw (fun q a b c d => z_cp_r d) (fun t ht e => ⟨by rw [z_cp_r (by decide)], by rw [z_cp_r (by decide)], by rw [z_cp_r (by decide)], fun p hp => ?_⟩) ⟨?_, ?_, ?_, fun t ht => ?_⟩
        · rw [z_cp_1, if_neg (by omega)]
        · rw [z_cp_r (by decide)]; exact n5.1
        · rw [z_cp_r (by decide)]; exact n5.2.1
        · rw [z_cp_r (by decide), zCopy_len]; exact n5.2.2.1
        · rw [zCopy_len] at ht
          unfold zCopy
          rw [z_map_getD ht, z_cp_1]
          by_cases q : j ≤ t ∧ t < j + n
          · rw [if_pos q, if_pos (by omega), ← m5.2.2.2 _ (show i + (t - j) < l.length by omega)]
            exact congrArg (τ.1 14) (by omega)
          · rw [if_neg q, if_neg (by omega)]; exact n5.2.2.2 _ ht
      by_cases e1 : s ≠ o ∨ j ≤ i
      · have eu := m_copy_up hs ho (show i + n ≤ 40 by omega) (show j + n ≤ 40 by omega) e1 n z_FU 0 τ (by omega) (by simp only [z_FU]; omega)
        rw [nI_0, Nat.add_zero] at eu
        have : (if nI s = nI o then (if nI j ≤ nI i then (fX6_copy_121 z_FU (nI s) (nI i) (nI o) (nI j) (nI n) (0 : Int32) (0 : Int32) τ) else (fX6_copy_121 z_FU (nI s) (nI i) (nI o) (nI j) (nI n) (1 : Int32) (0 : Int32) τ)) else (fX6_copy_121 z_FU (nI s) (nI i) (nI o) (nI j) (nI n) (0 : Int32) (0 : Int32) τ)) = fX6_copy_121 z_FU (nI s) (nI i) (nI o) (nI j) (nI n) (0 : Int32) (0 : Int32) τ := by
          by_cases es : s = o
          · rw [if_pos (by rw [es]), if_pos (nI_le (by omega) (by omega))]
          · rw [if_neg (by rw [z_eq_nI (by omega) (by omega)]; exact es)]
        rw [this, eu]
        exact zSame_ret hC hM hW
      · have es : s = o := by omega
        subst es
        rw [if_pos rfl, if_neg (nI_ge (by omega) (by omega))]
        have eu := m_copy_dn hs (show i + n ≤ 40 by omega) (show j + n ≤ 40 by omega) (by omega) n z_FU 0 τ (by omega) (by simp only [z_FU]; omega)
        rw [nI_0] at eu
        rw [eu]
        exact zSame_ret hC hM hW
end ZPUB11
