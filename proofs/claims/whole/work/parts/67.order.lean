/-! order -/
def oBest (tv : zTV) (a : aS) : oS := if 2 ≤ (ar a).length then oDfs (oWk tv a) ((ar a).length - 1) ((ar a).take 1) ((ar a).drop 1) (ar a, -1) else (ar a, -1)
theorem z_take_drop {l : List Nat} {i : Nat} (h1 : 1 ≤ i) (hi : i < l.length) : (l.take (i + 1)).drop 1 = (l.take i).drop 1 ++ [l.getD i 0] := by
  rw [List.take_succ_eq_append_getElem hi, z_getD hi, List.drop_append]
  have : 1 - (l.take i).length = 0 := by simp; omega
  rw [this]
  rfl
theorem oMk_snoc {M p : Nat} {rem : List Nat} (h : oMk M rem) (hp : p < 6) : nI M ||| ((1 : Int32) <<< (nI p &&& 31)) = nI (M ||| 2 ^ p) ∧ oMk (M ||| 2 ^ p) (rem ++ [p]) := by
  obtain ⟨h1, h2⟩ := z_bitS M h.1 p hp
  refine ⟨h1, h2, fun q hq => ?_⟩
  rw [z_setB M h.1 p hp q hq]
  simp [h.2 q hq]
theorem c_mask {σ : z_Mem} {l : List Nat} (h1 : σ.1 22 4 = nI l.length) (h2 : ∀ i, i < l.length → σ.1 24 i = nI (l.getD i 0)) (h6 : l.length ≤ 6) (hl : ∀ p ∈ l, p < 6) (hl2 : 2 ≤ l.length) {P : Unit → z_Mem → Prop} (hK : ∀ M, oMk M (l.drop 1) → z_R (z_bd (fX1_seekFrom (1 : Int32) (nI M) (99 : Int32) σ) (fun _ s3 => some ((), s3))) P) : ∀ (m q i M : Nat), 1 ≤ i → i + m = l.length → m < q → oMk M ((l.take i).drop 1) → z_R (fX1_seekBest_24 q (nI M) (nI i) σ) P
  | m, 0, i, M, _, _, h, _ => absurd h (Nat.not_lt_zero _)
  | 0, q + 1, i, M, hi1, hi, hq, hM => by
    have : i = l.length := by omega
    subst this
    rw [fX1_seekBest_24, h1, if_pos (nI_le (by omega) (by omega)), if_neg (by rw [show (1 : Int32) = nI 1 by decide]; exact nI_ge (by omega) (by omega))]
    rw [List.take_length] at hM
    exact hK M hM
  | m + 1, q + 1, i, M, hi1, hi, hq, hM => by
    have hi' : i < l.length := by omega
    have hp : l.getD i 0 < 6 := hl _ (z_mem hi')
    rw [fX1_seekBest_24, h1, if_neg (nI_ge hi' (by omega)), z_gdT (z_inN (by omega) (by decide)), z_xN (by omega), h2 i hi', (oMk_snoc hM hp).1, nI_1]
    refine c_mask h1 h2 h6 hl hl2 hK m q (i + 1) _ (by omega) (by omega) (by omega) ?_
    rw [z_take_drop hi1 hi']
    exact (oMk_snoc hM hp).2
theorem oMk_0 : oMk 0 [] := ⟨by decide, fun p _ => by simp⟩
theorem z_take1 {l : List Nat} : (l.take 1).drop 1 = [] := by
  cases l <;> simp
theorem c_best {σ : z_Mem} {tv : zTV} {a : aS} (hw : aW a) (h : cO σ tv a (ar a)) : z_R (fX1_seekBest σ) (fun _ σ' => σ'.1 22 4 = nI (ar a).length ∧ σ'.1 22 5 = (oBest tv a).2 ∧ (oBest tv a).1.length = (ar a).length ∧ (∀ i, i < (ar a).length → σ'.1 26 i = nI ((oBest tv a).1.getD i 0)) ∧ cK (fun k => k = 22 ∨ k = 24 ∨ k = 26) σ σ') := by
  have h6 := hw.1
  have hl6 := aW_len hw
  unfold fX1_seekBest
  rw [z_stE, z_gdT z_cpOk6, z_stE, z_x0, z_x6]
  generalize hs : z_ac (z_pt σ 22 5 (-1)) 24 26 0 0 6 = s
  have hk : cK (fun k => k = 22 ∨ k = 24 ∨ k = 26) σ s := fun k hk => by rw [← hs, z_ac_r (by omega), z_pt_r (by omega)]
  have e4 : s.1 22 4 = nI (ar a).length := by rw [← hs, z_ac_r (by decide), z_pt_2 (by decide)]; exact h.1
  have e5 : s.1 22 5 = -1 := by rw [← hs, z_ac_r (by decide), z_pt_1]
  have e24 : ∀ i, i < (ar a).length → s.1 24 i = nI ((ar a).getD i 0) := fun i hi => by rw [← hs, z_ac_r (by decide), z_pt_3 (by decide)]; exact h.2.1 i hi
  have e26 : ∀ i, i < (ar a).length → s.1 26 i = nI ((ar a).getD i 0) := fun i hi => by
    rw [← hs, z_ac_f, if_pos rfl, if_pos (by omega), z_pt_3 (by decide), show 0 + (i - 0) = i by omega]; exact h.2.1 i hi
  have e23 : ∀ p q, p < an a → q < an a → q ≠ p → s.1 23 (6 * p + q) = gHold tv a p q := fun p q hp hq hne => by rw [← hs, z_ac_r (by decide), z_pt_3 (by decide)]; exact h.2.2 p q hp hq hne
  by_cases h2 : 2 ≤ (ar a).length
  · have eB : oBest tv a = oDfs (oWk tv a) ((ar a).length - 1) ((ar a).take 1) ((ar a).drop 1) (ar a, -1) := if_pos h2
    have hl1 : ((ar a).take 1).length = 1 := by simp; omega
    have L := c_mask (P := fun _ σ' => σ'.1 22 4 = nI (ar a).length ∧ σ'.1 22 5 = (oBest tv a).2 ∧ (oBest tv a).1.length = (ar a).length ∧ (∀ i, i < (ar a).length → σ'.1 26 i = nI ((oBest tv a).1.getD i 0)) ∧ cK (fun k => k = 22 ∨ k = 24 ∨ k = 26) σ σ') e4 e24 hl6 (fun p hp => by have := hw.2.2.1 p hp; omega) h2 (fun M hM => by
      have hQ : cQ s tv a ((ar a).take 1) (ar a, -1) := by
        refine ⟨e4, fun i hi => ?_, e23, e5, rfl, e26⟩
        rw [hl1] at hi
        have : i = 0 := by omega
        subst this
        rw [e24 0 (by omega)]
        congr 1
        rw [z_getD (show 0 < (ar a).length by omega), z_getD (show 0 < ((ar a).take 1).length by omega), List.getElem_take]
      have G := c_seek (tv := tv) hw h2 ((ar a).length - 1) 64 (by omega) s ((ar a).take 1) ((ar a).drop 1) (ar a, -1) M hQ (by rw [List.take_append_drop]) (by simp) (by omega) hM
      rw [hl1] at G
      have eL : oL tv a ((ar a).take 1) = 99 := by
        unfold oL
        rw [hl1]
        rfl
      rw [eL] at G
      obtain ⟨u, s1, f1, q1, k1⟩ := G
      have f1' : fX1_seekFrom (1 : Int32) (nI M) (99 : Int32) s = some (u, s1) := f1
      rw [z_bdE f1']
      rw [eB]
      exact z_R_some ⟨q1.1, q1.2.2.2.1, q1.2.2.2.2.1, q1.2.2.2.2.2, cK_tr hk k1⟩) ((ar a).length - 1) z_FU 1 0 (by omega) (by omega) (by simp only [z_FU]; omega) (by rw [z_take1]; exact oMk_0)
    exact L
  · have eB : oBest tv a = (ar a, -1) := if_neg h2
    rw [show z_FU = 999 + 1 from rfl, fX1_seekBest_24, e4, if_pos (by rw [show (1 : Int32) = nI 1 by decide]; exact nI_le (by omega) (by omega)), if_pos (by rw [show (1 : Int32) = nI 1 by decide]; exact nI_le (by omega) (by omega)), eB]
    exact z_R_some ⟨e4, e5, rfl, e26, hk⟩
theorem m_order {g : zG} {τ : z_Mem} {w : Int32} (hm : mG τ g) (hw : gW g) : z_R (fX6_order_17 z_FU w 0 0 τ) (fun r τ' => r = (if w = 0 then nI (oDg (oBest (gV g) (gA g)).1) else (oBest (gV g) (gA g)).2) ∧ mG τ' g) := by
  have hA := hw.1.1
  have h6 := hA.1
  have hl6 := aW_len hA
  have hall : ∀ p ∈ ar (gA g), p < 6 := fun p hp => by have := hA.2.2.1 p hp; omega
  have back : ∀ (t0 t : z_Mem) (row hard : Int32), mR τ t → t.1 0 12 = nI (ar (gA g)).length → (∀ j, j < (ar (gA g)).length → t.1 8 j = nI ((ar (gA g)).getD j 0)) → (∀ k, k = 4 → t.1 k = τ.1 k) → (∀ j, j < 13 → t.1 0 j = τ.1 0 j) → t.1 0 31 = row → t.1 0 32 = hard → z_R (fX6_order_87 (fun l1 σ => if l1 = 0 then (some (σ.1 0 31, σ)) else (some (σ.1 0 32, σ))) z_FU w (0 : Int32) t) (fun r τ' => r = (if w = 0 then row else hard) ∧ mG τ' g) := by
    intro t0 t row hard hR e12 e8 e4 e0 e31 e32
    have e1 := z_loop (f := fun q i σ => fX6_order_87 (fun l1 σ => if l1 = 0 then (some (σ.1 0 31, σ)) else (some (σ.1 0 32, σ))) q w i σ) (K := fun σ => if w = 0 then (some (σ.1 0 31, σ)) else (some (σ.1 0 32, σ))) (N := (ar (gA g)).length) (kd := 5) (ks := 8) (R := t.1 0) (by decide) (by decide) (fun q i σ hRr hi => by
      show fX6_order_87 (fun l1 σ => if l1 = 0 then (some (σ.1 0 31, σ)) else (some (σ.1 0 32, σ))) (q + 1) w (nI i) σ = _
      rw [fX6_order_87, hRr, e12, if_neg (nI_ge hi (by omega)), z_gdT (z_inN (by omega) (by decide)), z_gdT (z_inN (by omega) (by decide)), z_stE, z_xN (by omega), nI_1]) (fun q σ hRr => by
      show fX6_order_87 (fun l1 σ => if l1 = 0 then (some (σ.1 0 31, σ)) else (some (σ.1 0 32, σ))) (q + 1) w (nI (ar (gA g)).length) σ = _
      rw [fX6_order_87, hRr, e12, if_pos (nI_le (Nat.le_refl _) (by omega))]) (ar (gA g)).length z_FU 0 t rfl (by omega) (by simp only [z_FU]; omega)
    rw [nI_0] at e1
    rw [e1]
    have hG : mG (z_cp t 5 (fun j => if 0 ≤ j ∧ j < (ar (gA g)).length then t.1 8 j else t.1 5 j)) g := by
      refine mG_a hm (mR_tr hR ⟨fun k _ _ h5 _ _ _ => z_cp_r h5, fun j _ => by rw [z_cp_r (by decide)]⟩) ?_
      obtain ⟨m1, m2, m3, m4, m5, m6, m7⟩ := hm.1
      refine ⟨?_, ?_, ?_, ?_, ?_, fun i hi => ?_, fun i hi => ?_⟩
      · rw [z_cp_r (by decide), e0 10 (by omega)]; exact m1
      · rw [z_cp_r (by decide), e0 12 (by omega)]; exact m2
      · rw [z_cp_r (by decide), e0 7 (by omega)]; exact m3
      · rw [z_cp_r (by decide), e0 8 (by omega)]; exact m4
      · rw [z_cp_r (by decide), e0 4 (by omega)]; exact m5
      · rw [z_cp_r (by decide), e4 4 rfl]; exact m6 i hi
      · have hi' : i < (ar (gA g)).length := hi
        rw [z_cp_1, if_pos (by omega)]; exact e8 i hi'
    rw [z_cp_r (by decide), e31, e32]
    by_cases e : w = 0
    · rw [if_pos e, if_pos e]; exact z_R_some ⟨rfl, hG⟩
    · rw [if_neg e, if_neg e]; exact z_R_some ⟨rfl, hG⟩
  have fin : ∀ (q M : Nat) (t : z_Mem), oMk M ((ar (gA g)).drop 1) → (∀ k, k ≠ 8 → t.1 k = τ.1 k) → (∀ j, j < (ar (gA g)).length → t.1 8 j = nI ((ar (gA g)).getD j 0)) → z_R (fX6_order_17 (q + 1) w (nI M) (nI (ar (gA g)).length) t) (fun r τ' => r = (if w = 0 then nI (oDg (oBest (gV g) (gA g)).1) else (oBest (gV g) (gA g)).2) ∧ mG τ' g) := by
    intro q M t hMk hk h8
    have e12 : t.1 0 12 = nI (ar (gA g)).length := by rw [hk 0 (by decide)]; exact hm.1.2.1
    rw [fX6_order_17, e12, if_pos (nI_le (Nat.le_refl _) (by omega)), z_stE, z_stE]
    generalize hs : z_pt (z_pt t 0 31 0) 0 32 (-1) = s
    have hks : ∀ k, k ≠ 0 → k ≠ 8 → s.1 k = τ.1 k := fun k h0 h => by rw [← hs, z_pt_r h0, z_pt_r h0]; exact hk k h
    have h8s : ∀ j, j < (ar (gA g)).length → s.1 8 j = nI ((ar (gA g)).getD j 0) := fun j hj => by rw [← hs, z_pt_3 (by decide), z_pt_3 (by decide)]; exact h8 j hj
    have h0s : ∀ j, j ≠ 31 → j ≠ 32 → s.1 0 j = τ.1 0 j := fun j h1 h2 => by rw [← hs, z_pt_2 h2, z_pt_2 h1, hk 0 (by decide)]
    have e31 : s.1 0 31 = 0 := by rw [← hs, z_pt_2 (by decide), z_pt_1]
    have e32 : s.1 0 32 = -1 := by rw [← hs, z_pt_1]
    have e12s : s.1 0 12 = nI (ar (gA g)).length := by rw [h0s 12 (by decide) (by decide)]; exact hm.1.2.1
    have hRs : mR τ s := ⟨fun k h0 _ _ _ _ h => hks k h0 h, fun j hj => h0s j (by omega) (by omega)⟩
    have hMs : mM s (gA g) := by
      obtain ⟨m1, m2, m3, m4, m5, m6, m7⟩ := hm.1
      refine ⟨?_, ?_, ?_, ?_, ?_, fun i hi => ?_, fun i hi => ?_⟩
      · rw [h0s 10 (by decide) (by decide)]; exact m1
      · rw [h0s 12 (by decide) (by decide)]; exact m2
      · rw [h0s 7 (by decide) (by decide)]; exact m3
      · rw [h0s 8 (by decide) (by decide)]; exact m4
      · rw [h0s 4 (by decide) (by decide)]; exact m5
      · rw [hks 4 (by decide) (by decide)]; exact m6 i hi
      · rw [hks 5 (by decide) (by decide)]; exact m7 i hi
    have hGs : mG s g := mG_a hm hRs hMs
    rw [e12s]
    by_cases n0 : (ar (gA g)).length = 0
    · have eB : oBest (gV g) (gA g) = (ar (gA g), -1) := if_neg (by omega)
      have el : ar (gA g) = [] := List.length_eq_zero_iff.mp n0
      rw [if_pos (by rw [n0]; decide), eB]
      have := back s s 0 (-1) hRs e12s h8s (fun k e => by rw [e]; exact hks 4 (by decide) (by decide)) (fun j hj => h0s j (by omega) (by omega)) e31 e32
      rw [el]
      exact this
    rw [if_neg (nI_nle (by omega) (by omega))]
    by_cases n2 : 2 ≤ (ar (gA g)).length
    · have eB : oBest (gV g) (gA g) = oDfs (oWk (gV g) (gA g)) ((ar (gA g)).length - 1) ((ar (gA g)).take 1) ((ar (gA g)).drop 1) (ar (gA g), -1) := if_pos n2
      have hl1 : ((ar (gA g)).take 1).length = 1 := by simp; omega
      have hQ : mQ s (gA g) s ((ar (gA g)).take 1) (ar (gA g), -1) := by
        refine ⟨mOf_rf, fun i hi => ?_, e32, e31, rfl, hall⟩
        rw [hl1] at hi
        have : i = 0 := by omega
        subst this
        rw [hMs.2.2.2.2.2.2 0 (by show 0 < (ar (gA g)).length; omega)]
        congr 1
        rw [z_getD (show 0 < (ar (gA g)).length by omega), z_getD (show 0 < ((ar (gA g)).take 1).length by omega), List.getElem_take]
      have G := m_seek hGs hw n2 ((ar (gA g)).length - 1) 64 (by omega) s ((ar (gA g)).take 1) ((ar (gA g)).drop 1) (ar (gA g), -1) M hQ (by rw [List.take_append_drop]) (by simp) (by omega) hMk
      rw [hl1, ← eB] at G
      obtain ⟨u, s1, f1, q1⟩ := G
      have f1' : fX6_orders (1 : Int32) (nI M) s = some (u, s1) := f1
      rw [z_bdE f1']
      have hne : ¬ (oBest (gV g) (gA g)).2 = -1 := by
        rw [eB]
        refine oDfs_hit (l := ar (gA g)) (fun r hr => ?_) _ _ _ _ (by rw [List.take_append_drop]) (by simp) (fun p hp => hall p (List.mem_of_mem_drop hp))
        exact gWeak_in (oR_W hr hA) (by show 2 ≤ r.length; rw [hr.length_eq]; exact n2)
      have er : oRow (oBest (gV g) (gA g)) = nI (oDg (oBest (gV g) (gA g)).1) := if_neg hne
      rw [← er]
      exact back s1 s1 _ _ (mR_tr hRs (mOf_R q1.1)) (by rw [q1.1.2 12 (by omega) (by omega) (by omega)]; exact e12s) (fun j hj => by rw [q1.1.1 8 (by decide) (by decide)]; exact h8s j hj) (fun k e => by rw [e, q1.1.1 4 (by decide) (by decide)]; exact hks 4 (by decide) (by decide)) (fun j hj => by rw [q1.1.2 j (by omega) (by omega) (by omega)]; exact h0s j (by omega) (by omega)) q1.2.2.2.1 q1.2.2.1
    · have n1 : (ar (gA g)).length = 1 := by omega
      have eB : oBest (gV g) (gA g) = (ar (gA g), -1) := if_neg n2
      have eW : gWeak (gV g) (gA g) = -1 := by
        unfold gWeak
        rw [show aN (gA g) = 0 from if_pos (by omega)]
        rfl
      obtain ⟨v, t1, f1, v1, k1⟩ := m_weakest hMs hA hGs.2.2.1 hw.1.2.1
      have hM1 := mM_kept hMs k1
      have f2 := m_digits hM1.2.1 hM1.2.2.2.2.2.2 hl6
      have f3 : fX6_orders (1 : Int32) (nI M) s = some ((), z_pt (z_pt t1 0 31 (nI (oDg (ar (gA g))))) 0 32 v) := by
        show fX6_orders_b (zGO 63) 1 (nI M) s = _
        unfold fX6_orders_b
        rw [e12s, n1, if_neg (by decide), z_bdE f1, if_pos (by rw [k1.2 31 (by omega)]; exact e31), z_bdE f2, z_stE, z_stE]
      rw [z_bdE f3, eB]
      have hv : v = -1 := v1.trans eW
      have j31 : ∀ j, j ≠ 31 → j ≠ 32 → (j < 13 ∨ 27 < j) → (z_pt (z_pt t1 0 31 (nI (oDg (ar (gA g))))) 0 32 v).1 0 j = s.1 0 j := fun j a b c => by rw [z_pt_2 b, z_pt_2 a]; exact k1.2 j c
      have jk : ∀ k, k ≠ 0 → (z_pt (z_pt t1 0 31 (nI (oDg (ar (gA g))))) 0 32 v).1 k = s.1 k := fun k a => by rw [z_pt_r a, z_pt_r a]; exact k1.1 k a
      exact back t1 _ _ _ (mR_tr hRs ⟨fun k a _ _ _ _ _ => jk k a, fun j hj => j31 j (by omega) (by omega) (by omega)⟩) (by rw [j31 12 (by decide) (by decide) (by omega)]; exact e12s) (fun j hj => by rw [jk 8 (by decide)]; exact h8s j hj) (fun k e => by rw [e, jk 4 (by decide)]; exact hks 4 (by decide) (by decide)) (fun j hj => by rw [j31 j (by omega) (by omega) (by omega)]; exact h0s j (by omega) (by omega)) (by rw [z_pt_2 (by decide), z_pt_1]) (by rw [z_pt_1]; exact hv)
  have cpy : ∀ (m q i M : Nat) (t : z_Mem), i + m = (ar (gA g)).length → m < q → oMk M (((ar (gA g)).take i).drop 1) → (∀ k, k ≠ 8 → t.1 k = τ.1 k) → (∀ j, j < i → t.1 8 j = nI ((ar (gA g)).getD j 0)) → z_R (fX6_order_17 q w (nI M) (nI i) t) (fun r τ' => r = (if w = 0 then nI (oDg (oBest (gV g) (gA g)).1) else (oBest (gV g) (gA g)).2) ∧ mG τ' g) := by
    intro m
    induction m with
    | zero =>
      intro q i M t hi hq hM hk h8
      have ei : i = (ar (gA g)).length := by omega
      subst ei
      rw [List.take_length] at hM
      match q, hq with
      | q + 1, hq => exact fin q M t hM hk h8
    | succ m ih =>
      intro q i M t hi hq hM hk h8
      match q, hq with
      | q + 1, hq =>
        have hi' : i < (ar (gA g)).length := by omega
        have hp : (ar (gA g)).getD i 0 < 6 := hall _ (z_mem hi')
        have e12 : t.1 0 12 = nI (ar (gA g)).length := by rw [hk 0 (by decide)]; exact hm.1.2.1
        have e5 : t.1 5 i = nI ((ar (gA g)).getD i 0) := by rw [hk 5 (by decide)]; exact hm.1.2.2.2.2.2.2 i hi'
        rw [fX6_order_17, e12, if_neg (nI_ge hi' (by omega)), z_gdT (z_inN (by omega) (by decide)), z_gdT (z_inN (by omega) (by decide)), z_stE, z_xN (by omega), nI_1]
        have hk' : ∀ k, k ≠ 8 → (z_pt t 8 i (t.1 5 i)).1 k = τ.1 k := fun k h => by rw [z_pt_r h]; exact hk k h
        have h8' : ∀ j, j < i + 1 → (z_pt t 8 i (t.1 5 i)).1 8 j = nI ((ar (gA g)).getD j 0) := fun j hj => by
          by_cases e : j = i
          · rw [e, z_pt_1]; exact e5
          · rw [z_pt_2 e]; exact h8 j (by omega)
        by_cases i0 : i = 0
        · subst i0
          rw [if_pos (show nI 0 = (0 : Int32) from rfl), Int32.or_zero]
          refine ih q 1 M _ (by omega) (by omega) ?_ hk' h8'
          rw [z_take1]
          rw [List.take_zero] at hM
          exact hM
        · rw [if_neg (nI_ne0 (by omega) (by omega)), z_gdT (z_inN (by omega) (by decide)), z_pt_3 (by decide), e5, (oMk_snoc hM hp).1]
          rw [← e5]
          refine ih q (i + 1) _ _ (by omega) (by omega) ?_ hk' h8'
          rw [z_take_drop (by omega) hi']
          exact (oMk_snoc hM hp).2
  have := cpy (ar (gA g)).length z_FU 0 0 τ (by omega) (by simp only [z_FU]; omega) (by rw [List.take_zero]; exact oMk_0) (fun _ _ => rfl) (fun j hj => by omega)
  rw [nI_0] at this
  exact this
section ZPUB22
variable {σ τ : z_Mem} {g : zG}
theorem p_order (hc : cG σ g) (hm : mG τ g) (hw : gW g) (x : Int32) : zSame (fX5_order x σ) (fX6_order x τ) := by
  have hA := hw.1.1
  have hl6 := aW_len hA
  unfold fX5_order fX6_order
  rw [z_bdE m_in, show (0 : Int64).toInt = 0 from rfl, show (1 : Int64).toInt = 1 from rfl]
  by_cases h1 : x = 0 ∨ x = 1
  · rw [if_pos (z_01.mpr h1), if_neg z_10]
    obtain ⟨r1, s1, f1, o1, o2, k1⟩ := c_look hA hw.1.2.1 hc.1 hc.2.2.1
    obtain ⟨r2, s2, f2, b1, b2, b3, b4, k2⟩ := c_best (tv := gV g) hA o1
    have hc2 : cG s2 g := cG_k (cG_k hc k1) (cK_mono k2 (fun k hk => by unfold zScr; omega))
    obtain ⟨r3, t3, f3, v3, m3⟩ := m_order (w := x) hm hw
    rw [f3, v3]
    have Q : zSame (z_bd (fX1_look 7 σ) (fun _ s1 => z_bd (fX1_seekBest s1) (fun _ s2 => if x = 0 then (z_bd (fX1_bestDigits s2) (fun r3 s3 => some (r3, s3))) else (some (s2.1 22 5, s2))))) (some ((if x = 0 then nI (oDg (oBest (gV g) (gA g)).1) else (oBest (gV g) (gA g)).2), t3)) := by
      rw [z_bdE f1, z_bdE f2]
      by_cases e : x = 0
      · rw [if_pos e, if_pos e, z_bdE (c_digits (l := (oBest (gV g) (gA g)).1) (by rw [b3]; exact b1) (fun i hi => b4 i (by rw [b3] at hi; exact hi)) (by rw [b3]; exact hl6))]
        exact zSame_ret hc2 m3 hw
      · rw [if_neg e, if_neg e, b2]
        exact zSame_ret hc2 m3 hw
    by_cases e : x = 0
    · rw [if_pos e]; exact Q
    · rw [if_neg e, if_pos (h1.resolve_left e)]; exact Q
  · rw [if_neg (fun h => h1 (z_01.mp h)), if_pos rfl, if_neg (fun h => h1 (Or.inl h)), if_neg (fun h => h1 (Or.inr h))]
    exact zSame_ret hc hm hw
end ZPUB22
