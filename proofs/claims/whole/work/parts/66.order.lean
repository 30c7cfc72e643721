/-! the reference's search -/
def mOf (τ0 τ : z_Mem) : Prop := (∀ k, k ≠ 0 → k ≠ 5 → τ.1 k = τ0.1 k) ∧ ∀ j, (j < 13 ∨ 27 < j) → j ≠ 31 → j ≠ 32 → τ.1 0 j = τ0.1 0 j
theorem mOf_rf {τ : z_Mem} : mOf τ τ := ⟨fun _ _ _ => rfl, fun _ _ _ _ => rfl⟩
theorem mOf_tr {τ τ' τ'' : z_Mem} (h : mOf τ τ') (h' : mOf τ' τ'') : mOf τ τ'' := ⟨fun k a b => (h'.1 k a b).trans (h.1 k a b), fun j a b c => (h'.2 j a b c).trans (h.2 j a b c)⟩
theorem mOf_k {τ τ' : z_Mem} (h : mK τ τ') : mOf τ τ' := ⟨fun k a _ => h.1 k a, fun j a _ _ => h.2 j a⟩
theorem mOf_5 {τ : z_Mem} {j : Nat} {v : Int32} : mOf τ (z_pt τ 5 j v) := ⟨fun k _ b => z_pt_r b, fun q _ _ _ => z_pt_3 (by decide)⟩
theorem mOf_R {τ τ' : z_Mem} (h : mOf τ τ') : mR τ τ' := ⟨fun k a _ b _ _ _ => h.1 k a b, fun j hj => h.2 j (by omega) (by omega) (by omega)⟩
def oRow (s : oS) : Int32 := if s.2 = -1 then 0 else nI (oDg s.1)
def mQ (τ0 : z_Mem) (a : aS) (τ : z_Mem) (pre : List Nat) (s : oS) : Prop := mOf τ0 τ ∧ (∀ i, i < pre.length → τ.1 5 i = nI (pre.getD i 0)) ∧ τ.1 0 32 = s.2 ∧ τ.1 0 31 = oRow s ∧ s.1.length = (ar a).length ∧ ∀ p ∈ s.1, p < 6
theorem oDg_b : ∀ (l : List Nat) (d : Nat), (∀ p ∈ l, p < 6) → d ≤ l.foldl (fun d p => d * 10 + p + 1) d ∧ l.foldl (fun d p => d * 10 + p + 1) d + 1 ≤ (d + 1) * 10 ^ l.length ∧ (0 < l.length → 0 < l.foldl (fun d p => d * 10 + p + 1) d)
  | [], d, _ => ⟨Nat.le_refl _, by simp, fun h => absurd h (by simp)⟩
  | p :: l, d, h => by
    obtain ⟨h1, h2, h3⟩ := oDg_b l (d * 10 + p + 1) (fun q hq => h q (List.mem_cons_of_mem _ hq))
    have hp := h p List.mem_cons_self
    rw [List.foldl_cons]
    refine ⟨by omega, ?_, fun _ => by omega⟩
    refine Nat.le_trans h2 ?_
    rw [List.length_cons, Nat.pow_succ, Nat.mul_comm (10 ^ l.length) 10, ← Nat.mul_assoc]
    exact Nat.mul_le_mul_right _ (by omega)
theorem oDg_lt {l : List Nat} (h : ∀ p ∈ l, p < 6) (h6 : l.length ≤ 6) : oDg l < 2 ^ 31 := by
  have := (oDg_b l 0 h).2.1
  have h2 : (10 : Nat) ^ l.length ≤ 10 ^ 6 := Nat.pow_le_pow_right (by omega) h6
  unfold oDg
  omega
theorem oDg_ne {l : List Nat} (h : ∀ p ∈ l, p < 6) (h6 : l.length ≤ 6) (h0 : 0 < l.length) : ¬ nI (oDg l) = 0 := nI_ne0 ((oDg_b l 0 h).2.2 h0) (oDg_lt h h6)
theorem m_dig_loop {τ : z_Mem} {l : List Nat} (h1 : τ.1 0 12 = nI l.length) (h2 : ∀ i, i < l.length → τ.1 5 i = nI (l.getD i 0)) (h6 : l.length ≤ 6) : ∀ (m q i d : Nat), i + m = l.length → m < q → fX6_digitsOf_4 q (nI d) (nI i) τ = some (nI ((l.drop i).foldl (fun d p => d * 10 + p + 1) d), τ)
  | m, 0, i, d, _, h => absurd h (Nat.not_lt_zero _)
  | 0, q + 1, i, d, hi, hq => by
    have : i = l.length := by omega
    subst this
    rw [fX6_digitsOf_4, h1, if_pos (nI_le (by omega) (by omega)), List.drop_length]
    rfl
  | m + 1, q + 1, i, d, hi, hq => by
    have hi' : i < l.length := by omega
    rw [fX6_digitsOf_4, h1, if_neg (nI_ge hi' (by omega)), z_gdT (z_inN (by omega) (by decide)), z_xN (by omega), h2 i hi', show (10 : Int32) = nI 10 by decide, pk_mul, nI_add, nI_1, nI_1, m_dig_loop h1 h2 h6 m q (i + 1) _ (by omega) (by omega), List.drop_eq_getElem_cons hi', List.foldl_cons, z_getD hi', Nat.mul_comm 10 d]
theorem m_digits {τ : z_Mem} {l : List Nat} (h1 : τ.1 0 12 = nI l.length) (h2 : ∀ i, i < l.length → τ.1 5 i = nI (l.getD i 0)) (h6 : l.length ≤ 6) : fX6_digitsOf τ = some (nI (oDg l), τ) := by
  unfold fX6_digitsOf
  have := m_dig_loop h1 h2 h6 l.length z_FU 0 0 (by omega) (by simp only [z_FU]; omega)
  rw [nI_0, List.drop_zero] at this
  exact this
def mSk (g : zG) (τ0 : z_Mem) (G : Int32 → Int32 → z_Mem → Option (Unit × z_Mem)) (k : Nat) : Prop := ∀ (τ : z_Mem) (pre rem : List Nat) (s : oS) (M : Nat), mQ τ0 (gA g) τ pre s → (pre ++ rem).Perm (ar (gA g)) → rem.length = k → 0 < pre.length → oMk M rem → z_R (G (nI pre.length) (nI M) τ) (fun _ τ' => mQ τ0 (gA g) τ' pre (oDfs (oWk (gV g) (gA g)) k pre rem s))
theorem m_sk_loop {g : zG} {τ0 : z_Mem} {G : Int32 → Int32 → z_Mem → Option (Unit × z_Mem)} {k M : Nat} {pre rem : List Nat} (hm0 : mG τ0 g) (hw : gW g) (hG : mSk g τ0 G k) (hp : (pre ++ rem).Perm (ar (gA g))) (hk : rem.length = k + 1) (h0 : 0 < pre.length) (hM : oMk M rem) : ∀ (m q p : Nat) (s : oS) (τ : z_Mem), mQ τ0 (gA g) τ pre s → p ≤ an (gA g) → p + m = 6 → m < q → z_R (fX6_orders_44 G q (nI pre.length) (nI M) (nI p) τ) (fun _ τ' => mQ τ0 (gA g) τ' pre (oLp (fun p s => if p ∈ rem then oDfs (oWk (gV g) (gA g)) k (pre ++ [p]) (rem.erase p) s else s) m p s))
  | m, 0, p, s, τ, _, _, _, h => absurd h (Nat.not_lt_zero _)
  | m, q + 1, p, s, τ, h, hpa, hi, hq => by
    have hA := hw.1.1
    have h6 := hA.1
    have hl6 := aW_len hA
    have hlen : pre.length + rem.length = (ar (gA g)).length := by rw [← hp.length_eq]; simp
    have hN : (pre ++ rem).Nodup := hp.nodup_iff.mpr hA.2.1
    have hNr : rem.Nodup := (List.nodup_append.mp hN).2.1
    have e10 : τ.1 0 10 = nI (an (gA g)) := by rw [h.1.2 10 (by omega) (by omega) (by omega)]; exact hm0.1.1
    rw [fX6_orders_44, e10]
    by_cases hpe : p = an (gA g)
    · have eid : oLp (fun p s => if p ∈ rem then oDfs (oWk (gV g) (gA g)) k (pre ++ [p]) (rem.erase p) s else s) m p s = s := oLp_id m p (fun q a b => if_neg (fun hq => by
        have := oP_lt hA hp (List.mem_append_right _ hq)
        omega))
      rw [if_pos (nI_le (by omega) (by omega)), eid]
      exact z_R_some h
    · match m, hi, hq with
      | 0, hi, hq => omega
      | m + 1, hi, hq =>
        rw [if_neg (nI_ge (by omega) (by omega)), oLp]
        by_cases e : p ∈ rem
        · rw [if_pos ((oMk_bit hM (by omega)).mpr e), if_pos e, z_gdT (z_inN (by omega) (by decide)), z_stE, z_xN (show pre.length < 2 ^ 31 by omega), (z_bitC M hM.1 p (by omega)).1, nI_1]
          have hQ : mQ τ0 (gA g) (z_pt τ 5 pre.length (nI p)) (pre ++ [p]) s := by
            obtain ⟨g1, g2, g3, g4, g5⟩ := h
            refine ⟨mOf_tr g1 mOf_5, fun i hi => ?_, ?_, ?_, g5⟩
            · by_cases ei : i = pre.length
              · rw [ei, z_pt_1, z_getD_last]
              · have hi' : i < pre.length := by simp at hi; omega
                rw [z_pt_2 ei, z_getD_app hi']; exact g2 i hi'
            · rw [z_pt_3 (by decide)]; exact g3
            · rw [z_pt_3 (by decide)]; exact g4
          have hlen2 : (pre ++ [p]).length = pre.length + 1 := by simp
          have GG := hG (z_pt τ 5 pre.length (nI p)) (pre ++ [p]) (rem.erase p) s (zClr M p) hQ (oP_step hp e) (by rw [List.length_erase_of_mem e]; omega) (by simp) (oMk_clr hM (by omega) hNr)
          rw [hlen2] at GG
          obtain ⟨u, s1, f1, q1⟩ := GG
          rw [z_bdE f1, nI_1]
          have hq1 : mQ τ0 (gA g) s1 pre (oDfs (oWk (gV g) (gA g)) k (pre ++ [p]) (rem.erase p) s) := by
            obtain ⟨g1, g2, g3⟩ := q1
            exact ⟨g1, fun i hi => by rw [g2 i (by simp; omega), z_getD_app hi], g3⟩
          exact m_sk_loop hm0 hw hG hp hk h0 hM m q (p + 1) _ s1 hq1 (by omega) (by omega) (by omega)
        · rw [if_neg (fun q => e ((oMk_bit hM (by omega)).mp q)), if_neg e, nI_1]
          exact m_sk_loop hm0 hw hG hp hk h0 hM m q (p + 1) s τ h (by omega) (by omega) (by omega)
theorem m_leaf {g : zG} {τ0 τ : z_Mem} {pre : List Nat} {s : oS} (hm0 : mG τ0 g) (h : mQ τ0 (gA g) τ pre s) (hr : oR (gA g) pre) : mM τ (aRing (gA g) pre) ∧ mT τ (gV g) (gN g) := by
  obtain ⟨g1, g2, -⟩ := h
  obtain ⟨m1, m2, m3, m4, m5, m6, m7⟩ := hm0.1
  refine ⟨⟨?_, ?_, ?_, ?_, ?_, fun i hi => ?_, g2⟩, mT_kept hm0.2.2.1 (g1.2 3 (by omega) (by omega) (by omega)) (g1.1 1 (by omega) (by omega)) (g1.1 2 (by omega) (by omega))⟩
  · rw [g1.2 10 (by omega) (by omega) (by omega)]; exact m1
  · rw [g1.2 12 (by omega) (by omega) (by omega), m2]; exact congrArg nI (oR_len hr).symm
  · rw [g1.2 7 (by omega) (by omega) (by omega)]; exact m3
  · rw [g1.2 8 (by omega) (by omega) (by omega)]; exact m4
  · rw [g1.2 4 (by omega) (by omega) (by omega)]; exact m5
  · rw [g1.1 4 (by omega) (by omega)]; exact m6 i hi
theorem gWeak_in {tv : zTV} {a : aS} (hw : aW a) (h2 : 2 ≤ (ar a).length) : 0 ≤ (gWeak tv a).toInt := by
  have hN : aN a = (ar a).length := if_neg (by omega)
  obtain ⟨⟨i, hi, e⟩, -⟩ := zWk_min (f := gH tv a) (n := (ar a).length) (by omega) (fun j hj => gH_ne hw hj)
  unfold gWeak
  rw [hN, e]
  exact (gH_in hw hi).1
theorem m_seek {g : zG} {τ0 : z_Mem} (hm0 : mG τ0 g) (hw : gW g) (h2 : 2 ≤ (ar (gA g)).length) : ∀ (k f : Nat), k < f → mSk g τ0 (zGO f) k
  | _, 0, h => absurd h (Nat.not_lt_zero _)
  | k, f + 1, hf => fun τ pre rem s M h hp hk h0 hM => by
    have hA := hw.1.1
    have h6 := hA.1
    have hl6 := aW_len hA
    have hlen : pre.length + rem.length = (ar (gA g)).length := by rw [← hp.length_eq]; simp
    have e12 : τ.1 0 12 = nI (ar (gA g)).length := by rw [h.1.2 12 (by omega) (by omega) (by omega)]; exact hm0.1.2.1
    show z_R (fX6_orders_b (zGO f) (nI pre.length) (nI M) τ) _
    unfold fX6_orders_b
    rw [e12]
    match k, hk with
    | 0, hk =>
      have er : rem = [] := List.length_eq_zero_iff.mp hk
      subst er
      have hr : oR (gA g) pre := by rw [List.append_nil] at hp; exact hp
      have hpl : pre.length = (ar (gA g)).length := oR_len hr
      have hW := oR_W hr hA
      obtain ⟨hM1, hT1⟩ := m_leaf hm0 h hr
      rw [if_neg (nI_nlt (by omega) (by omega)), oDfs]
      refine z_R_bd (m_weakest hM1 hW hT1 hw.1.2.1) (fun v t hv => ?_)
      have hOf : mOf τ0 t := mOf_tr h.1 (mOf_k hv.2)
      have e31 : t.1 0 31 = oRow s := by rw [hv.2.2 31 (by omega)]; exact h.2.2.2.1
      have e32 : t.1 0 32 = s.2 := by rw [hv.2.2 32 (by omega)]; exact h.2.2.1
      have e5 : ∀ i, i < pre.length → t.1 5 i = nI (pre.getD i 0) := fun i hi => by rw [hv.2.1 5 (by decide)]; exact h.2.1 i hi
      have e12' : t.1 0 12 = nI pre.length := by rw [hOf.2 12 (by omega) (by omega) (by omega), hpl]; exact hm0.1.2.1
      have hWp : 0 ≤ (gWeak (gV g) (aRing (gA g) pre)).toInt := gWeak_in hW (by show 2 ≤ pre.length; omega)
      have hWn : ¬ gWeak (gV g) (aRing (gA g) pre) = -1 := fun e => by
        rw [e] at hWp
        exact absurd hWp (by decide)
      have up : z_R (z_bd (fX6_digitsOf t) (fun r4 s4 => z_st (z_pt s4 0 31 r4) (fun s5 => z_st (z_pt s5 0 32 v) (fun s6 => some ((), s6))))) (fun _ τ' => mQ τ0 (gA g) τ' pre (pre, oWk (gV g) (gA g) pre)) := by
        rw [z_bdE (m_digits e12' e5 (by omega)), z_stE, z_stE]
        refine z_R_some ⟨mOf_tr hOf ⟨fun k a _ => ?_, fun j a b c => ?_⟩, fun i hi => ?_, ?_, ?_, hpl, fun p hq => ?_⟩
        · rw [z_pt_r a, z_pt_r a]
        · rw [z_pt_2 c, z_pt_2 b]
        · rw [z_pt_3 (by decide), z_pt_3 (by decide)]; exact e5 i hi
        · rw [z_pt_1]; exact hv.1
        · rw [z_pt_2 (by decide), z_pt_1]
          unfold oRow
          rw [if_neg hWn]
        · have := oP_lt hA hp (List.mem_append_left _ hq)
          omega
      have kp : mQ τ0 (gA g) t pre s := ⟨hOf, e5, e32, e31, h.2.2.2.2⟩
      rw [e31]
      by_cases em : s.2 = -1
      · have er0 : oRow s = 0 := if_pos em
        have hlt : s.2 < oWk (gV g) (gA g) pre := by
          rw [em, Int32.lt_iff_toInt_lt]
          exact Int.lt_of_lt_of_le (by decide) hWp
        rw [if_pos er0, if_pos hlt]
        exact up
      · have er0 : ¬ oRow s = 0 := by
          unfold oRow
          rw [if_neg em]
          exact oDg_ne h.2.2.2.2.2 (by rw [h.2.2.2.2.1]; omega) (by rw [h.2.2.2.2.1]; omega)
        rw [if_neg er0, e32, hv.1]
        by_cases e2 : gWeak (gV g) (aRing (gA g) pre) ≤ s.2
        · rw [if_pos e2, if_neg (Int32.not_lt.mpr e2)]
          exact z_R_some kp
        · rw [if_neg e2, if_pos (Int32.not_le.mp e2)]
          rw [hv.1] at up
          exact up
    | k + 1, hk =>
      rw [if_pos (nI_lt (by omega) (by omega)), oDfs]
      have L := m_sk_loop hm0 hw (m_seek hm0 hw h2 k f (by omega)) hp hk h0 hM 6 z_FU 0 s τ h (by omega) (by omega) (by simp only [z_FU]; omega)
      rw [nI_0] at L
      exact L
