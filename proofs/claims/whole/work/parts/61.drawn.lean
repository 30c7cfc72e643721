/-! orders that are drawn -/
abbrev oSw (r : List Nat) (i j : Nat) : List Nat := (r.set i (r.getD j 0)).set j (r.getD i 0)
theorem oSw_R {a : aS} {r : List Nat} {i j : Nat} (h : oR a r) (hi : i < r.length) (hj : j < r.length) : oR a (oSw r i j) := (aSwap_perm hi hj).trans h
theorem oSw_len {r : List Nat} {i j : Nat} : (oSw r i j).length = r.length := by simp
theorem c_oChN {σ : z_Mem} {tv : zTV} {a : aS} {r : List Nat} {i j : Nat} (h : cO σ tv a r) (h6 : r.length ≤ 6) (hi : i < r.length) (hj : j < r.length) : ∃ σ', fX1_change (nI i) (nI j) σ = some ((), σ') ∧ cO σ' tv a (oSw r i j) ∧ cK (fun k => k = 24) σ σ' := by
  unfold fX1_change
  rw [h.1, if_neg (nI_pos (by omega)), if_neg (nI_ge hi (by omega)), if_neg (nI_pos (by omega)), if_neg (nI_ge hj (by omega)), z_gdT (z_inN (show i < 6 by omega) (by decide)), z_gdT (z_inN (show j < 6 by omega) (by decide)), z_gdT (z_inN (show i < 6 by omega) (by decide)), z_stE, z_gdT (z_inN (show j < 6 by omega) (by decide)), z_stE, z_xN (by omega), z_xN (by omega), h.2.1 i hi, h.2.1 j hj]
  refine ⟨_, rfl, ⟨?_, fun q hq => ?_, fun p q hp hq hne => ?_⟩, fun k hk => ?_⟩
  · rw [z_pt_3 (by decide), z_pt_3 (by decide), oSw_len]; exact h.1
  · rw [oSw_len] at hq
    rw [z_getD_set (by simpa using hj), z_getD_set hi]
    by_cases q1 : q = j
    · rw [if_pos q1, q1, z_pt_1]
    · rw [if_neg q1, z_pt_2 q1]
      by_cases q2 : q = i
      · rw [if_pos q2, q2, z_pt_1]
      · rw [if_neg q2, z_pt_2 q2]; exact h.2.1 q hq
  · rw [z_pt_3 (by decide), z_pt_3 (by decide)]; exact h.2.2 p q hp hq hne
  · rw [z_pt_r hk, z_pt_r hk]
def oSwI (r : List Nat) (x y : Int32) : List Nat := if 0 ≤ x.toInt ∧ x.toInt < r.length then (if 0 ≤ y.toInt ∧ y.toInt < r.length then oSw r (z_x x) (z_x y) else r) else r
theorem oSwI_N {r : List Nat} {i j : Nat} (h6 : r.length ≤ 6) (hi : i < r.length) (hj : j < r.length) : oSwI r (nI i) (nI j) = oSw r i j := by
  unfold oSwI
  rw [nI_toInt (by omega), nI_toInt (by omega), if_pos (by omega), if_pos (by omega), z_xN (by omega), z_xN (by omega)]
theorem oSwI_X {r : List Nat} {x y : Int32} (h : ¬ (0 ≤ x.toInt ∧ x.toInt < r.length)) : oSwI r x y = r := if_neg h
theorem oSwI_Y {r : List Nat} {x y : Int32} (h : ¬ (0 ≤ y.toInt ∧ y.toInt < r.length)) : oSwI r x y = r := by
  unfold oSwI
  rw [if_neg h, ite_self]
theorem oSwI_R {a : aS} {r : List Nat} {x y : Int32} (h : oR a r) (h6 : r.length ≤ 6) : oR a (oSwI r x y) := by
  by_cases c1 : 0 ≤ x.toInt ∧ x.toInt < r.length
  · by_cases c2 : 0 ≤ y.toInt ∧ y.toInt < r.length
    · obtain ⟨i, hi, rfl⟩ := z_ofI c1
      obtain ⟨j, hj, rfl⟩ := z_ofI c2
      rw [oSwI_N h6 hi hj]
      exact oSw_R h hi hj
    · rw [oSwI_Y c2]; exact h
  · rw [oSwI_X c1]; exact h
theorem c_oCh {σ : z_Mem} {tv : zTV} {a : aS} {r : List Nat} {x y : Int32} (h : cO σ tv a r) (h6 : r.length ≤ 6) : ∃ σ', fX1_change x y σ = some ((), σ') ∧ cO σ' tv a (oSwI r x y) ∧ cK (fun k => k = 24) σ σ' := by
  have hl : ∀ z : Int32, nI r.length ≤ z ↔ (r.length : Int) ≤ z.toInt := fun z => by rw [Int32.le_iff_toInt_le, nI_toInt (by omega)]
  by_cases c1 : 0 ≤ x.toInt ∧ x.toInt < r.length
  · by_cases c2 : 0 ≤ y.toInt ∧ y.toInt < r.length
    · obtain ⟨i, hi, rfl⟩ := z_ofI c1
      obtain ⟨j, hj, rfl⟩ := z_ofI c2
      rw [oSwI_N h6 hi hj]
      exact c_oChN h h6 hi hj
    · rw [oSwI_Y c2]
      refine ⟨σ, ?_, h, cK_rf⟩
      unfold fX1_change
      rw [h.1, if_neg (by rw [z_ge0]; omega), if_neg (by rw [hl]; omega)]
      by_cases q : y < 0
      · rw [if_pos q]
      · rw [if_neg q, if_pos (by rw [hl]; rw [z_ge0] at q; omega)]
  · rw [oSwI_X c1]
    refine ⟨σ, ?_, h, cK_rf⟩
    unfold fX1_change
    rw [h.1]
    by_cases q : x < 0
    · rw [if_pos q]
    · rw [if_neg q, if_pos (by rw [hl]; rw [z_ge0] at q; omega)]
def zNx (z : Int32) : Int32 := (z * (1103515245 : Int32)) + (12345 : Int32)
def zDr (z : Int32) : Int32 := (((zNx z).toUInt32 >>> ((9 : Int32).toUInt32 &&& Int32.toUInt32 31)).toInt32) - (((zNx z).toUInt32 >>> ((9 : Int32).toUInt32 &&& Int32.toUInt32 31)).toInt32) / (8 : Int32) * (8 : Int32)
theorem fD20 (q : Nat) (n z i : Int32) (σ : z_Mem) : fX1_weakestDrawn_20 (q + 1) n z i σ = if n ≤ i then (z_bd (fX1_weakestNow σ) (fun r2 s2 => some (r2, s2))) else z_bd (fX1_change (zDr z) (zDr (zNx z)) σ) (fun _ s3 => fX1_weakestDrawn_20 q n (zNx (zNx z)) (i + 1) s3) := by
  rw [fX1_weakestDrawn_20]
  unfold zDr zNx
  rfl
theorem fD33 (K : z_Mem → Option (Int32 × z_Mem)) (q : Nat) (n z i : Int32) (σ : z_Mem) : fX6_weakestDrawn_33 K (q + 1) n z i σ = if n ≤ i then K σ else z_bd (fX6_isPlace (zDr z) σ) (fun r1 s1 => if r1 = 0 then (fX6_weakestDrawn_33 K q n (zNx (zNx z)) (i + 1) s1) else (z_bd (fX6_isPlace (zDr (zNx z)) s1) (fun r2 s2 => if r2 = 0 then (fX6_weakestDrawn_33 K q n (zNx (zNx z)) (i + 1) s2) else (z_bd (fX6_change (zDr z) (zDr (zNx z)) s2) (fun _ s3 => fX6_weakestDrawn_33 K q n (zNx (zNx z)) (i + 1) s3))))) := by
  rw [fX6_weakestDrawn_33]
  unfold zDr zNx
  rfl
def oDrawG (D N : Int32 → Int32) : Nat → List Nat → Int32 → List Nat
  | 0, r, _ => r
  | m + 1, r, z => oDrawG D N m (oSwI r (D z) (D (N z))) (N (N z))
theorem oDrawG0 {D N : Int32 → Int32} {r : List Nat} {z : Int32} : oDrawG D N 0 r z = r := rfl
theorem oDrawGS {D N : Int32 → Int32} {m : Nat} {r : List Nat} {z : Int32} : oDrawG D N (m + 1) r z = oDrawG D N m (oSwI r (D z) (D (N z))) (N (N z)) := rfl
def oDraw (m : Nat) (r : List Nat) (z : Int32) : List Nat := oDrawG zDr zNx m r z
theorem oDraw0 {r : List Nat} {z : Int32} : oDraw 0 r z = r := oDrawG0
theorem oDrawS {m : Nat} {r : List Nat} {z : Int32} : oDraw (m + 1) r z = oDraw m (oSwI r (zDr z) (zDr (zNx z))) (zNx (zNx z)) := oDrawGS
theorem oDraw_R {a : aS} (hA : aW a) : ∀ (m : Nat) (r : List Nat) (z : Int32), oR a r → oR a (oDraw m r z)
  | 0, r, z, h => by rw [oDraw0]; exact h
  | m + 1, r, z, h => by rw [oDrawS]; exact oDraw_R hA m _ _ (oSwI_R h (aW_len (oR_W h hA)))
theorem c_draw_loop {tv : zTV} {a : aS} {n : Nat} (hw : aW a) (hn : n ≤ 40) : ∀ (m q i : Nat) (z : Int32) (r : List Nat) (σ : z_Mem), cO σ tv a r → oR a r → i + m = n → m < q → ∃ σ', fX1_weakestDrawn_20 q (nI n) z (nI i) σ = some (gWeak tv (aRing a (oDraw m r z)), σ') ∧ cK (fun k => k = 24) σ σ' ∧ cO σ' tv a (oDraw m r z)
  | m, 0, i, z, r, σ, _, _, _, h => absurd h (Nat.not_lt_zero _)
  | 0, q + 1, i, z, r, σ, h, hr, hi, hq => by
    rw [fD20, if_pos (nI_le (by omega) (by omega)), z_bdE (c_weakestNow h hr hw), oDraw0]
    exact ⟨σ, rfl, cK_rf, h⟩
  | m + 1, q + 1, i, z, r, σ, h, hr, hi, hq => by
    have h6 : r.length ≤ 6 := aW_len (oR_W hr hw)
    obtain ⟨s1, e1, c1, k1⟩ := c_oCh (x := zDr z) (y := zDr (zNx z)) h h6
    obtain ⟨s2, e2, k2, o2⟩ := c_draw_loop hw hn m q (i + 1) (zNx (zNx z)) _ s1 c1 (oSwI_R hr h6) (by omega) (by omega)
    refine ⟨s2, ?_, cK_tr k1 k2, by rw [oDrawS]; exact o2⟩
    rw [fD20, if_neg (nI_ge (by omega) (by omega)), z_bdE e1, nI_1, e2, oDrawS]
theorem c_weakestDrawn {tv : zTV} {a : aS} {n : Nat} {z : Int32} {r : List Nat} {σ : z_Mem} (hw : aW a) (hn : n ≤ 40) (h : cO σ tv a r) (hl : r.length = (ar a).length) (h1 : cO1 σ a) : ∃ σ', fX1_weakestDrawn z (nI n) σ = some (gWeak tv (aRing a (oDraw n (ar a) z)), σ') ∧ cK (fun k => k = 24) σ σ' ∧ cO σ' tv a (oDraw n (ar a) z) := by
  have h6 := aW_len hw
  unfold fX1_weakestDrawn
  rw [z_gdT z_cpOk6, z_stE, z_x0, z_x6]
  have hO : cO (z_ac σ 25 24 0 0 6) tv a (ar a) := by
    refine ⟨?_, fun i hi => ?_, fun p q hp hq hne => ?_⟩
    · rw [z_ac_r (by decide), h.1, hl]
    · rw [z_ac_f, if_pos rfl, if_pos (by omega), show 0 + (i - 0) = i by omega]; exact h1 i hi
    · rw [z_ac_r (by decide)]; exact h.2.2 p q hp hq hne
  obtain ⟨s2, e2, k2, o2⟩ := c_draw_loop hw hn n z_FU 0 z (ar a) _ hO oR_rf (by omega) (by simp only [z_FU]; omega)
  rw [nI_0] at e2
  exact ⟨s2, e2, cK_tr (fun k hk => z_ac_r hk) k2, o2⟩
theorem m_draw_loop {a : aS} {n : Nat} {K : z_Mem → Option (Int32 × z_Mem)} {P : Int32 → z_Mem → Prop} (hw : aW a) (hn : n ≤ 40) : ∀ (m q i : Nat) (z : Int32) (r : List Nat) (τ : z_Mem), mM τ (aRing a r) → oR a r → (∀ τ', mM τ' (aRing a (oDraw m r z)) → mC τ τ' → z_R (K τ') P) → i + m = n → m < q → z_R (fX6_weakestDrawn_33 K q (nI n) z (nI i) τ) P
  | m, 0, i, z, r, τ, _, _, _, _, h => absurd h (Nat.not_lt_zero _)
  | 0, q + 1, i, z, r, τ, h, hr, hK, hi, hq => by
    rw [fD33, if_pos (nI_le (by omega) (by omega))]
    exact hK τ (by rw [oDraw0]; exact h) mC_rf
  | m + 1, q + 1, i, z, r, τ, h, hr, hK, hi, hq => by
    have hW := oR_W hr hw
    have h6 : r.length ≤ 6 := aW_len hW
    rw [fD33, if_neg (nI_ge (by omega) (by omega))]
    rw [z_bdE (m_isPlace h hW), nI_1]
    have IH := fun (t : z_Mem) (e : mM t (aRing a (oSwI r (zDr z) (zDr (zNx z))))) (c : mC τ t) => m_draw_loop (K := K) (P := P) hw hn m q (i + 1) (zNx (zNx z)) _ t e (oSwI_R hr h6) (fun τ' e1 e2 => hK τ' (by rw [oDrawS]; exact e1) (mC_tr c e2)) (by omega) (by omega)
    by_cases c1 : 0 ≤ (zDr z).toInt ∧ (zDr z).toInt < (ar (aRing a r)).length
    · rw [if_pos c1, if_neg z_10, z_bdE (m_isPlace h hW)]
      by_cases c2 : 0 ≤ (zDr (zNx z)).toInt ∧ (zDr (zNx z)).toInt < (ar (aRing a r)).length
      · rw [if_pos c2, if_neg z_10]
        obtain ⟨x, hx, ex⟩ := z_ofI c1
        obtain ⟨y, hy, ey⟩ := z_ofI c2
        obtain ⟨t1, e1, m1, k1⟩ := m_change h hW hx hy
        rw [ex, ey]
        rw [ex, ey, oSwI_N h6 hx hy] at IH
        rw [z_bdE e1]
        exact IH t1 m1 k1
      · rw [if_neg c2, if_pos rfl]
        rw [oSwI_Y c2] at IH
        exact IH τ h mC_rf
    · rw [if_neg c1, if_pos rfl]
      rw [oSwI_X c1] at IH
      exact IH τ h mC_rf
theorem m_weakestDrawn {g : zG} {τ : z_Mem} {n : Nat} {z : Int32} (hm : mG τ g) (hw : gW g) (hn : n ≤ 40) : z_R (fX6_weakestDrawn z (nI n) τ) (fun r τ' => r = gWeak (gV g) (aRing (gA g) (oDraw n (ar (gA g)) z)) ∧ mG τ' g) := by
  have hA := hw.1.1
  have h6 := aW_len hA
  have hl := hm.1.2.1
  unfold fX6_weakestDrawn
  have e0 := z_loop (f := fun q i σ => fX6_weakestDrawn_2 q z (nI n) i σ) (K := fun σ => fX6_weakestDrawn_33 (fun σ => z_bd (fX6_weakest σ) (fun r4 s4 => fX6_weakestDrawn_118 (fun l4 σ => some (l4, σ)) z_FU r4 (0 : Int32) s4)) z_FU (nI n) z (0 : Int32) σ) (N := (ar (gA g)).length) (kd := 8) (ks := 5) (R := τ.1 0) (by decide) (by decide) (fun q i σ hR hi => by
      show fX6_weakestDrawn_2 (q + 1) z (nI n) (nI i) σ = _
      rw [fX6_weakestDrawn_2, hR, hl, if_neg (nI_ge hi (by omega)), z_gdT (z_inN (by omega) (by decide)), z_gdT (z_inN (by omega) (by decide)), z_stE, z_xN (by omega), nI_1]) (fun q σ hR => by
      show fX6_weakestDrawn_2 (q + 1) z (nI n) (nI (ar (gA g)).length) σ = _
      rw [fX6_weakestDrawn_2, hR, hl, if_pos (nI_le (Nat.le_refl _) (by omega))]) (ar (gA g)).length z_FU 0 τ rfl (by omega) (by simp only [z_FU]; omega)
  rw [nI_0] at e0
  rw [e0]
  generalize hs : z_cp τ 8 (fun j => if 0 ≤ j ∧ j < (ar (gA g)).length then τ.1 5 j else τ.1 8 j) = s
  have hk : ∀ k, k ≠ 8 → s.1 k = τ.1 k := fun k h => by rw [← hs, z_cp_r h]
  have h8 : ∀ j, j < (ar (gA g)).length → s.1 8 j = nI ((ar (gA g)).getD j 0) := fun j hj => by
    rw [← hs, z_cp_1, if_pos (by omega)]; exact hm.1.2.2.2.2.2.2 j hj
  have hMs : mM s (gA g) := by
    unfold mM
    rw [hk 0 (by decide), hk 4 (by decide), hk 5 (by decide)]
    exact hm.1
  have hRs : mR τ s := ⟨fun k _ _ _ _ _ h => hk k h, fun j _ => by rw [hk 0 (by decide)]⟩
  have hGs : mG s g := mG_a hm hRs hMs
  have L := m_draw_loop (a := gA g) (P := fun r τ' => r = gWeak (gV g) (aRing (gA g) (oDraw n (ar (gA g)) z)) ∧ mG τ' g) (K := fun σ => z_bd (fX6_weakest σ) (fun r4 s4 => fX6_weakestDrawn_118 (fun l4 σ => some (l4, σ)) z_FU r4 (0 : Int32) s4)) hA hn n z_FU 0 z (ar (gA g)) s hMs oR_rf (fun τ' m1 k1 => by
    have hr := oDraw_R hA n (ar (gA g)) z oR_rf
    have hW := oR_W hr hA
    refine z_R_bd (m_weakest (n := gN g) (tv := gV g) m1 hW (mT_c hGs.2.2.1 k1) hw.1.2.1) (fun v t hv => ?_)
    have hm2 := mM_kept m1 hv.2
    have hl2 : t.1 0 12 = nI (ar (gA g)).length := by rw [hm2.2.1]; exact congrArg nI (oR_len hr)
    have e1 := z_loop (f := fun q i σ => fX6_weakestDrawn_118 (fun l4 σ => some (l4, σ)) q v i σ) (K := fun σ => some (v, σ)) (N := (ar (gA g)).length) (kd := 5) (ks := 8) (R := t.1 0) (by decide) (by decide) (fun q i σ hR hi => by
      show fX6_weakestDrawn_118 (fun l4 σ => some (l4, σ)) (q + 1) v (nI i) σ = _
      rw [fX6_weakestDrawn_118, hR, hl2, if_neg (nI_ge hi (by omega)), z_gdT (z_inN (by omega) (by decide)), z_gdT (z_inN (by omega) (by decide)), z_stE, z_xN (by omega), nI_1]) (fun q σ hR => by
      show fX6_weakestDrawn_118 (fun l4 σ => some (l4, σ)) (q + 1) v (nI (ar (gA g)).length) σ = _
      rw [fX6_weakestDrawn_118, hR, hl2, if_pos (nI_le (Nat.le_refl _) (by omega))]) (ar (gA g)).length z_FU 0 t rfl (by omega) (by simp only [z_FU]; omega)
    rw [nI_0] at e1
    rw [e1]
    refine z_R_some ⟨hv.1, ?_⟩
    have e8 : t.1 8 = s.1 8 := by rw [hv.2.1 8 (by decide), k1.1 8 (by decide) (by decide)]
    have hR2 : mR τ' (z_cp t 5 (fun j => if 0 ≤ j ∧ j < (ar (gA g)).length then t.1 8 j else t.1 5 j)) := mR_tr (mR_k hv.2) ⟨fun k _ _ h5 _ _ _ => z_cp_r h5, fun j _ => by rw [z_cp_r (by decide)]⟩
    refine mG_a hGs (mR_tr (mR_c k1) hR2) ?_
    obtain ⟨g1, g2, g3, g4, g5, g6, g7⟩ := hm2
    refine ⟨?_, ?_, ?_, ?_, ?_, fun i hi => ?_, fun i hi => ?_⟩
    · rw [z_cp_r (by decide)]; exact g1
    · rw [z_cp_r (by decide)]; exact hl2
    · rw [z_cp_r (by decide)]; exact g3
    · rw [z_cp_r (by decide)]; exact g4
    · rw [z_cp_r (by decide)]; exact g5
    · rw [z_cp_r (by decide)]; exact g6 i hi
    · have hi' : i < (ar (gA g)).length := hi
      rw [z_cp_1, if_pos (by omega), e8]; exact h8 i hi') (by omega) (by simp only [z_FU]; omega)
  rw [nI_0] at L
  exact L
section ZPUB20
variable {σ τ : z_Mem} {g : zG}
theorem zScr_24 {σ σ' : z_Mem} (h : cK (fun k => k = 24) σ σ') : cK zScr σ σ' := cK_mono h (fun k hk => by unfold zScr; omega)
theorem p_drawn (hc : cG σ g) (hm : mG τ g) (hw : gW g) (x y : Int32) : zSame (fX5_drawn x y σ) (fX6_drawn x y τ) := by
  have hA := hw.1.1
  unfold fX5_drawn fX6_drawn
  rw [z_bdE m_in, show (0 : Int64).toInt = 0 from rfl, show (40 : Int64).toInt = 40 from rfl]
  by_cases h1 : 0 ≤ y.toInt ∧ y.toInt ≤ 40
  rotate_left
  · simp only [if_neg h1, if_true]
    simp only [z_ge0 (x := y), Int32.le_iff_toInt_le (y := (40 : Int32)), show (40 : Int32).toInt = 40 from rfl]
    by_cases q : y.toInt < 0
    · rw [if_pos q]; exact zSame_ret hc hm hw
    · rw [if_neg q, if_neg (by omega)]; exact zSame_ret hc hm hw
  rw [if_pos h1, if_neg z_10, if_neg (show ¬ y < 0 by rw [z_ge0]; omega), if_pos (show y ≤ 40 by rw [Int32.le_iff_toInt_le, show (40 : Int32).toInt = 40 from rfl]; omega)]
  obtain ⟨n, hn, rfl⟩ := z_ofI (x := y) (N := 41) (by omega)
  obtain ⟨r1, s1, f1, o1, o2, k1⟩ := c_look hA hw.1.2.1 hc.1 hc.2.2.1
  obtain ⟨s2, f2, k2, o3⟩ := c_weakestDrawn (z := x) hA (show n ≤ 40 by omega) o1 rfl o2
  obtain ⟨r3, t1, f3, v3, m3⟩ := m_weakestDrawn (z := x) hm hw (show n ≤ 40 by omega)
  rw [z_bdE f1, z_bdE f2, z_bdE f3, v3]
  exact zSame_ret (cG_k (cG_k hc k1) (zScr_24 k2)) m3 hw
theorem q_chance {x kk p : Int32} {n : Nat} (hw : gW g) (h0 : 0 < n) (hn : n ≤ 40) : ∀ (m q i c : Nat) (σ τ : z_Mem), cG σ g → mG τ g → (∃ r, cO σ (gV g) (gA g) r ∧ r.length = (ar (gA g)).length) → cO1 σ (gA g) → c ≤ i → i + m = n → m < q → zSame (fX5_chance_53 q x (nI n) kk p (nI c) (nI i) σ) (fX6_chance_45 q x (nI n) kk p (lN c) (nI i) τ)
  | m, 0, i, c, σ, τ, _, _, _, _, _, _, h => absurd h (Nat.not_lt_zero _)
  | 0, q + 1, i, c, σ, τ, hc, hm, hO, h1, hci, hi, hq => by
    rw [fX5_chance_53, fX6_chance_45, if_pos (nI_le (by omega) (by omega)), if_pos (nI_le (by omega) (by omega)), nI_l (show n < 2 ^ 31 by omega)]
    obtain ⟨r, e1, e2⟩ := z_low (p := p) (σ := σ) (τ := τ) (show c < 2 ^ 31 by omega) (show n < 64 by omega) h0
    rw [z_bdE e1, z_bdE e2]
    exact zSame_ret hc hm hw
  | m + 1, q + 1, i, c, σ, τ, hc, hm, hO, h1, hci, hi, hq => by
    have hA := hw.1.1
    obtain ⟨r, hO, hl⟩ := hO
    rw [fX5_chance_53, fX6_chance_45, if_neg (nI_ge (by omega) (by omega)), if_neg (nI_ge (by omega) (by omega))]
    obtain ⟨s2, f2, k2, o3⟩ := c_weakestDrawn (z := x + nI i) hA (show 6 ≤ 40 by omega) hO hl h1
    obtain ⟨r3, t1, f3, v3, m3⟩ := m_weakestDrawn (z := x + nI i) hm hw (show 6 ≤ 40 by omega)
    have f2' : fX1_weakestDrawn (x + nI i) 6 σ = _ := f2
    have f3' : fX6_weakestDrawn (x + nI i) 6 τ = _ := f3
    rw [z_bdE f2', z_bdE f3', v3, nI_1, nI_1]
    have hO2 : ∃ r, cO s2 (gV g) (gA g) r ∧ r.length = (ar (gA g)).length := ⟨_, o3, oR_len (oDraw_R hA 6 (ar (gA g)) _ oR_rf)⟩
    have h12 : cO1 s2 (gA g) := fun i hi => by rw [k2 25 (by decide)]; exact h1 i hi
    have IH := fun c' hc' => q_chance (x := x) (kk := kk) (p := p) hw h0 hn m q (i + 1) c' s2 t1 (cG_k hc (zScr_24 k2)) m3 hO2 h12 hc' (by omega) (by omega)
    by_cases e : gWeak (gV g) (aRing (gA g) (oDraw 6 (ar (gA g)) (x + nI i))) < kk
    · rw [if_pos e, if_pos e, Int64.add_zero]
      exact IH c (by omega)
    · rw [if_neg e, if_neg e, lN_1]
      exact IH (c + 1) (by omega)
theorem p_chance (hc : cG σ g) (hm : mG τ g) (hw : gW g) (x y v w : Int32) : zSame (fX5_chance x y v w σ) (fX6_chance x y v w τ) := by
  have hA := hw.1.1
  have hbad : zSame (some ((-4611686018427387904 : Int64), σ)) (some ((-4611686018427387904 : Int64), τ)) := zSame_ret hc hm hw
  unfold fX5_chance fX6_chance
  rw [z_bdE m_in, show (1 : Int64).toInt = 1 from rfl, show (40 : Int64).toInt = 40 from rfl]
  by_cases h1 : 1 ≤ y.toInt ∧ y.toInt ≤ 40
  rotate_left
  · simp only [if_neg h1, if_true]
    by_cases q : y < 1
    · rw [if_pos q]; exact hbad
    · rw [if_neg q, if_pos (by rw [Int32.lt_iff_toInt_lt, show (40 : Int32).toInt = 40 from rfl]; rw [Int32.lt_iff_toInt_lt, show (1 : Int32).toInt = 1 from rfl] at q; omega)]; exact hbad
  simp only [if_pos h1, if_neg z_10, if_neg (show ¬ y < 1 by rw [Int32.lt_iff_toInt_lt, show (1 : Int32).toInt = 1 from rfl]; omega), if_neg (show ¬ (40 : Int32) < y by rw [Int32.lt_iff_toInt_lt, show (40 : Int32).toInt = 40 from rfl]; omega)]
  rw [z_bdE m_in, show (0 : Int64).toInt = 0 from rfl, show (99 : Int64).toInt = 99 from rfl]
  by_cases h2 : 0 ≤ v.toInt ∧ v.toInt ≤ 99
  rotate_left
  · simp only [if_neg h2, if_true]
    by_cases q : v < 0
    · rw [if_pos q]; exact hbad
    · rw [if_neg q, if_pos (by rw [Int32.lt_iff_toInt_lt, show (99 : Int32).toInt = 99 from rfl]; rw [z_ge0] at q; omega)]; exact hbad
  simp only [if_pos h2, if_neg z_10, if_neg (show ¬ v < 0 by rw [z_ge0]; omega), if_neg (show ¬ (99 : Int32) < v by rw [Int32.lt_iff_toInt_lt, show (99 : Int32).toInt = 99 from rfl]; omega)]
  rw [z_bdE m_in, show (0 : Int64).toInt = 0 from rfl, show (1 : Int64).toInt = 1 from rfl]
  by_cases h3 : w = 0 ∨ w = 1
  · rw [if_pos (z_01.mpr h3), if_neg z_10]
    obtain ⟨n, hn, rfl⟩ := z_ofI (x := y) (N := 41) (by omega)
    have hn0 : 0 < n := by rw [nI_toInt (by omega)] at h1; omega
    obtain ⟨r1, s1, f1, o1, o2, k1⟩ := c_look hA hw.1.2.1 hc.1 hc.2.2.1
    rw [z_bdE f1]
    have Q := q_chance (x := x) (kk := v) (p := w) hw hn0 (show n ≤ 40 by omega) n z_FU 0 0 s1 τ (cG_k hc k1) hm ⟨_, o1, rfl⟩ o2 (by omega) (by omega) (by simp only [z_FU]; omega)
    rw [nI_0] at Q
    by_cases e : w = 0
    · rw [if_pos e]; exact Q
    · rw [if_neg e, if_pos (h3.resolve_left e)]; exact Q
  · rw [if_neg (fun h => h3 (z_01.mp h)), if_pos rfl, if_neg (fun h => h3 (Or.inl h)), if_neg (fun h => h3 (Or.inr h))]
    exact hbad
end ZPUB20
