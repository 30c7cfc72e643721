theorem z_bdS {α β : Type} {r : α} {s : z_Mem} {k : α → z_Mem → Option (β × z_Mem)} : z_bd (some (r, s)) k = k r s := z_bdE rfl
section ZPUB19
variable {σ τ : z_Mem} {g : zG}
theorem q_rb {s k w wc p N : Nat} {l : List Int32} {what bef : Int32} (hc : cG σ g) (hm : mG τ g) (hs : s < 4) (hw : gW g) (hS : gS g s = some (k, l)) (hw5 : w ≤ 5) (hwc : wc ≤ 4 ∧ wc = w ∨ wc = 9 ∧ w = 5) (hp : p < an (gA g)) (hN : N ≤ 100) (hok : ∀ v, v < N → aOk (aSup (gA g) w p (nI v)) (gN g)) (hbef : aSup (gA g) w p bef = gA g) (hbv : w = 5 → bef = nI (z_x bef)) (h10 : N ≤ 10 ∨ what = 3 ∨ what = 4 ∨ what = 5 ∨ what = 6) : zSame (z_bd (fX0_takeFrom 12 7 σ) (fun _ s7 => fX5_readBack_66 (28 + 2 * s) z_FU (nI p) what (nI wc) (nI N) 0 0 (-1) 0 s7)) (fX6_tells_181 z_FU (nI s) (nI p) what (nI w) bef 0 0 (-1) (nI N - 1) τ) := by
  have hA := hw.1.1
  have eq : ∀ (b : aS) (u : Int32), aSup b wc p u = aSup b w p u := fun b u => by
    rcases hwc with ⟨_, e⟩ | ⟨e1, e2⟩
    · rw [e]
    · subst e1; subst e2; rfl
  have eh : gHit (gV g) (gA g) wc p l = gHit (gV g) (gA g) w p l := by
    funext v
    unfold gHit
    rw [eq]
  obtain ⟨s1, f1, c1, k1⟩ := c_takeFrom (c := 12) (b := 7) hc.1 hA (by omega)
  rw [z_bdE f1]
  have Q1 := c_rb (what := what) (w := wc) (p := p) (N := N) hs hw hS (by omega) hp hN (fun v hv => by rw [eq]; exact hok v hv) N z_FU 0 (gA g) s1 (cG_k hc (zScr_tk k1)) c1 hA rfl (fun u => rfl) (by omega) (by simp only [z_FU]; omega)
  have Q2 := m_rb (what := what) (bef := bef) hs hw hS hw5 hp hN hok hbef hbv N z_FU 0 0 (-1) (gA g) τ hm hA rfl (fun u => rfl) (Nat.le_refl _) (by simp only [z_FU]; omega)
  rw [nI_0, eh] at Q1
  refine ⟨zAns what (zOr (gHit (gV g) (gA g) w p l) N) (zCnt (gHit (gV g) (gA g) w p l) N) (zLst (gHit (gV g) (gA g) w p l) N), g, hw, Q1, z_R_mono Q2 (fun r τ' h => ⟨?_, h.2⟩)⟩
  rw [h.1, Int32.zero_or, Int32.zero_add]
  have eL : (if zLst (gHit (gV g) (gA g) w p l) N = -1 then (-1 : Int32) else zLst (gHit (gV g) (gA g) w p l) N) = zLst (gHit (gV g) (gA g) w p l) N := by
    by_cases q : zLst (gHit (gV g) (gA g) w p l) N = -1
    · rw [if_pos q, q]
    · rw [if_neg q]
  rw [eL]
  rcases h10 with h | rfl | rfl | rfl | rfl
  · rw [zOr_T h]
  · rfl
  · rfl
  · rfl
  · rfl
theorem p_tells (hc : cG σ g) (hm : mG τ g) (hw : gW g) (x y v : Int32) : zSame (fX5_tells x y v σ) (fX6_tells x y v τ) := by
  have hA := hw.1.1
  have h6 := hA.1
  have hbad : zSame (some ((-2 : Int32), σ)) (some ((-2 : Int32), τ)) := zSame_ret hc hm hw
  unfold fX5_tells fX6_tells
  rw [z_bdE c_isSheet, z_bdE m_isSheet]
  by_cases h1 : 0 ≤ x.toInt ∧ x.toInt < (4 : Nat)
  rotate_left
  · simp only [if_neg h1, if_true]
    exact hbad
  simp only [if_pos h1, if_neg z_10]
  rw [z_bdE (c_has hc.1 hA), z_bdE (m_isOne hm.1 hA)]
  by_cases h2 : 0 ≤ y.toInt ∧ y.toInt < an (gA g)
  rotate_left
  · simp only [if_neg h2, if_true]
    exact hbad
  simp only [if_pos h2, if_neg z_10]
  rw [z_bdE m_in, show (0 : Int64).toInt = 0 from rfl, show (7 : Int64).toInt = 7 from rfl]
  by_cases h3 : 0 ≤ v.toInt ∧ v.toInt ≤ 7
  rotate_left
  · simp only [if_neg h3, if_true]
    simp only [z_ge0 (x := v), Int32.le_iff_toInt_le (y := (7 : Int32)), show (7 : Int32).toInt = 7 from rfl]
    by_cases q : v.toInt < 0
    · rw [if_pos q]; exact hbad
    · rw [if_neg q, if_neg (by omega)]; exact hbad
  simp only [if_pos h3, if_neg z_10, if_neg (show ¬ v < 0 by rw [z_ge0]; omega), if_pos (show v ≤ 7 by rw [Int32.le_iff_toInt_le, show (7 : Int32).toInt = 7 from rfl]; omega)]
  obtain ⟨s, hs, rfl⟩ := z_ofI h1
  obtain ⟨p, hp, rfl⟩ := z_ofI h2
  obtain ⟨w, hw8, rfl⟩ := z_ofI (x := v) (N := 8) (by omega)
  simp only [z_gdT (z_inN hs (show 4 < 2 ^ 31 by decide)), z_xN (show s < 2 ^ 31 by omega)]
  match hS : gS g s, hc.2.2.2.2 s hs, hm.2.2.2.2 s hs with
  | none, c5, m5 =>
    rw [if_pos c5.1, if_pos (show τ.1 11 s = 0 from m5)]
    exact zSame_ret hc hm hw
  | some (k, l), c5, m5 =>
    obtain ⟨hk, hl⟩ := hw.2.2.2.2.2 s k l hS
    have n1 : ¬ σ.1 (28 + 2 * s) 1 = -1 := by rw [c5.1]; exact nI_neg1 (by omega)
    have n2 : ¬ τ.1 11 s = 0 := by rw [m5.1]; exact z_10
    rw [if_neg n1, if_neg n2, c5.2.1, m5.2.2.1]
    by_cases l6 : nI l.length ≤ 6
    rotate_left
    · rw [if_neg l6, if_neg l6]
      exact hbad
    rw [if_pos l6, if_pos l6]
    have hnu : (ah (gA g)).toInt ≤ 999 := hw.1.2.2
    have ok : ∀ t, t ≤ 4 → 2 ≤ t ∨ t = 1 → ∀ u, u < (if t = 2 then 10 else if t = 4 then 6 else 100) → aOk (aSup (gA g) t p (nI u)) (gN g) := fun t ht ht2 u hu => by
      have hu1 : u < 100 := by
        split at hu
        · omega
        · split at hu <;> omega
      refine aSup_W hw.1 ht (fun _ => hp) (by rw [nI_toInt (by omega)]; omega) ?_
      rw [nI_toInt (by omega)]
      rcases (show t = 1 ∨ t = 2 ∨ t = 3 ∨ t = 4 by omega) with rfl | rfl | rfl | rfl
      · exact Int.ofNat_le.mpr (Nat.le_of_lt_succ hu)
      · exact Int.ofNat_le.mpr (Nat.le_of_lt_succ hu)
      · exact Int.ofNat_le.mpr (Nat.le_of_lt_succ hu)
      · exact Int.ofNat_le.mpr (Nat.le_of_lt_succ hu)
    have one : ∀ (t N : Nat) (what tI NI la : Int32), tI = nI t → NI = nI N → la = nI N - 1 → t ≤ 4 → (2 ≤ t ∨ t = 1) → N = (if t = 2 then 10 else if t = 4 then 6 else 100) → (N ≤ 10 ∨ what = 3 ∨ what = 4 ∨ what = 5 ∨ what = 6) → zSame (z_bd (z_bd (fX0_takeFrom 12 7 σ) (fun _ s7 => fX5_readBack_66 (28 + 2 * s) z_FU (nI p) what tI NI 0 0 (-1) 0 s7)) (fun r4 s4 => some (r4, s4))) (z_bd (fX6_told (nI p) tI τ) (fun r4 s4 => fX6_tells_181 z_FU (nI s) (nI p) what tI r4 0 0 (-1) la s4)) := fun t N what tI NI la e1 e2 e3 ht ht2 hN h10 => by
      subst e1; subst e2; subst e3
      rw [z_bdE (m_trait (w := t) (p := p) hm.1 hA ht (fun _ => ⟨hp, rfl⟩))]
      have hN' : N ≤ 100 := by
        rw [hN]
        split
        · omega
        · split <;> omega
      have Q := q_rb (w := t) (wc := t) (p := p) (N := N) (what := what) (bef := aTr (gA g) t p) hc hm hs hw hS (by omega) (Or.inl ⟨ht, rfl⟩) hp hN' (fun u hu => ok t ht ht2 u (by rw [← hN]; exact hu)) (aSup_back ht) (by omega) h10
      obtain ⟨r, g', w1, ⟨r1, s1, e1, h1, d1⟩, m1⟩ := Q
      exact ⟨r, g', w1, ⟨r1, s1, by rw [z_bdE e1], h1, d1⟩, m1⟩
    rcases (show w = 0 ∨ w = 1 ∨ w = 2 ∨ w = 3 ∨ w = 4 ∨ w = 5 ∨ w = 6 ∨ w = 7 by omega) with rfl | rfl | rfl | rfl | rfl | rfl | rfl | rfl
    · rw [if_pos (show nI 0 = (0 : Int32) from rfl), if_pos (show nI 0 = (0 : Int32) from rfl)]
      refine zSame_id ⟨gUn (gV g) (gA g) l, g, hw, z_R_mono (c_un hA hw.1.2.1 (by decide) hl hc.1 hc.2.2.1 c5) (fun r s h => ⟨h.1, cG_k hc (cK_4 h.2)⟩), z_R_mono (m_un hs hA hw.1.2.1 hl hm.1 hm.2.2.1 m5) (fun r s h => ⟨h.1, mG_k hm h.2⟩)⟩
    · rw [show nI 1 = (1 : Int32) from rfl]
      unfold fX5_readBack fX5_traitReadBack fX5_greatest fX6_tells_j104 fX6_tells_j126 fX6_tells_j166
      simp (decide := true) only [↓reduceIte, z_bdS]
      exact one 4 6 1 4 6 5 (by decide) (by decide) (by decide) (by omega) (by omega) rfl (by decide)
    · rw [nI_2]
      unfold fX5_readBack fX5_traitReadBack fX5_greatest fX6_tells_j104 fX6_tells_j126 fX6_tells_j166
      simp (decide := true) only [↓reduceIte, z_bdS]
      rw [show (9 : Int32) + 1 = 10 by decide]
      exact one 2 10 2 2 10 9 (by decide) (by decide) (by decide) (by omega) (by omega) rfl (by decide)
    · rw [nI_3]
      unfold fX5_readBack fX5_traitReadBack fX5_greatest fX6_tells_j104 fX6_tells_j126 fX6_tells_j166
      simp (decide := true) only [↓reduceIte, z_bdS]
      rw [show (99 : Int32) + 1 = 100 by decide]
      exact one 3 100 3 3 100 99 (by decide) (by decide) (by decide) (by omega) (by omega) rfl (by decide)
    · rw [nI_4]
      unfold fX5_readBack fX5_traitReadBack fX5_greatest fX6_tells_j104 fX6_tells_j126 fX6_tells_j166
      simp (decide := true) only [↓reduceIte, z_bdS]
      rw [show (99 : Int32) + 1 = 100 by decide]
      exact one 3 100 4 3 100 99 (by decide) (by decide) (by decide) (by omega) (by omega) rfl (by decide)
    · rw [nI_5]
      unfold fX5_readBack fX5_traitReadBack fX5_greatest fX6_tells_j104 fX6_tells_j126 fX6_tells_j166
      simp (decide := true) only [↓reduceIte, z_bdS]
      rw [show (99 : Int32) + 1 = 100 by decide]
      exact one 1 100 5 1 100 99 (by decide) (by decide) (by decide) (by omega) (by omega) rfl (by decide)
    · rw [nI_6]
      unfold fX5_readBack fX5_traitReadBack fX5_greatest fX6_tells_j104 fX6_tells_j126 fX6_tells_j166
      simp (decide := true) only [↓reduceIte, z_bdS]
      rw [show (99 : Int32) + 1 = 100 by decide]
      exact one 1 100 6 1 100 99 (by decide) (by decide) (by decide) (by omega) (by omega) rfl (by decide)
    · have hn6 := hw.2.2.1
      have hu := hw.1.2.1
      have Q := q_rb (w := 5) (wc := 9) (p := p) (N := gN g) (what := 7) (bef := nI (au (gA g))) hc hm hs hw hS (by omega) (Or.inr ⟨rfl, rfl⟩) hp (by omega) (fun u hu' => ⟨hA, by show z_x (nI u) < gN g; rw [z_xN (by omega)]; exact hu', hnu⟩) (by
        show (an (gA g), ar (gA g), ak (gA g), am (gA g), as_ (gA g), ah (gA g), ac (gA g), z_x (nI (au (gA g)))) = gA g
        rw [z_xN (by omega)]) (fun _ => by rw [z_xN (by omega)]) (by omega)
      rw [nI_7]
      unfold fX5_readBack fX5_traitReadBack fX6_tells_j104 fX6_tells_j126 fX6_tells_j166
      simp (decide := true) only [↓reduceIte, z_bdS]
      rw [hc.2.2.1.1, hm.2.2.1.1, hm.1.2.2.2.2.1]
      rw [nI_5, show nI 9 = (9 : Int32) by decide] at Q
      obtain ⟨r, g', w1, ⟨r1, s1, e1, h1, d1⟩, m1⟩ := Q
      exact ⟨r, g', w1, ⟨r1, s1, by rw [z_bdE e1], h1, d1⟩, m1⟩
end ZPUB19
