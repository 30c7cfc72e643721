/-! holds, gates, hours -/
def gHold (tv : zTV) (a : aS) (p q : Nat) : Int32 := z_mn (gGrip tv a p q) (gGrip tv a q p)
def gH (tv : zTV) (a : aS) (i : Nat) : Int32 := gHold tv a ((ar a).getD i 0) ((ar a).getD ((i + 1) % (ar a).length) 0)
abbrev aN (a : aS) : Nat := if (ar a).length < 2 then 0 else (ar a).length
theorem aR_lt {a : aS} (hw : aW a) {i : Nat} (hi : i < (ar a).length) : (ar a).getD i 0 < an a := by
  apply hw.2.2.1
  rw [z_getD hi]
  exact List.getElem_mem hi
theorem c_holdFrom {σ : z_Mem} {c i n : Nat} {a : aS} {tv : zTV} (h : cM σ c a) (hw : aW a) (hT : cT σ tv n) (hr : au a < n) (hc : zAp c) (hi : i < (ar a).length) : z_R (fX0_holdFrom c (nI i) σ) (fun r σ' => r = gH tv a i ∧ cK (fun k => k = 4) σ σ') := by
  have hm : (i + 1) % (ar a).length < (ar a).length := Nat.mod_lt _ (by omega)
  unfold fX0_holdFrom
  refine z_R_bdE (c_whoN h hw hi) (z_R_bdE (c_behind h hw hi) (z_R_bdE (c_whoN h hw hm) ?_))
  refine z_R_bd (c_gripOf h hw hT hr hc (aR_lt hw hi) (aR_lt hw hm)) (fun v s hv => ?_)
  refine z_R_bd (c_gripOf (cM_k4 h hv.2 hc) hw (cT_kept hT hv.2 (by decide) (by decide) (by decide)) hr hc (aR_lt hw hm) (aR_lt hw hi)) (fun v2 s2 hv2 => ?_)
  refine z_R_some ⟨?_, cK_tr hv.2 hv2.2⟩
  rw [hv.1, hv2.1]
  rfl
/-- the least of f from i on, m of them -/
def zWk (f : Nat → Int32) : Nat → Nat → Int32 → Int32
  | 0, _, l => l
  | m + 1, i, l => zWk f m (i + 1) (if l = -1 then f i else if l ≤ f i then l else f i)
def zGt (f : Nat → Int32) : Nat → Nat → Int32 → Int32
  | 0, _, l => l
  | m + 1, i, l => zGt f m (i + 1) (if f i = 0 then l + 1 else l)
def zFg (f : Nat → Int32) : Nat → Nat → Int32
  | 0, _ => -1
  | m + 1, i => if f i = 0 then nI i else zFg f m (i + 1)
def gWeak (tv : zTV) (a : aS) : Int32 := zWk (gH tv a) (aN a) 0 (-1)
def gGates (tv : zTV) (a : aS) : Int32 := zGt (gH tv a) (aN a) 0 0
def gFirst (tv : zTV) (a : aS) : Int32 := zFg (gH tv a) (aN a) 0
theorem aN_le {a : aS} (hw : aW a) : aN a ≤ (ar a).length ∧ aN a ≤ 6 := by
  have := aW_len hw
  unfold aN
  split <;> omega
theorem c_weak_loop {c n : Nat} {a : aS} {tv : zTV} (hw : aW a) (hr : au a < n) (hc : zAp c) : ∀ (m q i : Nat) (l : Int32) (σ : z_Mem), cM σ c a → cT σ tv n → i + m = aN a → m < q → z_R (fX0_weakest_9 c q (nI (aN a)) l (nI i) σ) (fun r σ' => r = zWk (gH tv a) m i l ∧ cK (fun k => k = 4) σ σ')
  | _, 0, i, l, σ, _, _, _, h => absurd h (Nat.not_lt_zero _)
  | 0, q + 1, i, l, σ, h, hT, hi, hq => by
    have := aN_le hw
    rw [fX0_weakest_9, if_pos (nI_le (by omega) (by omega))]
    exact z_R_some ⟨rfl, cK_rf⟩
  | m + 1, q + 1, i, l, σ, h, hT, hi, hq => by
    have := aN_le hw
    rw [fX0_weakest_9, if_neg (nI_ge (by omega) (by omega))]
    refine z_R_bd (c_holdFrom h hw hT hr hc (by omega)) (fun v s hv => ?_)
    have IH := fun l => c_weak_loop hw hr hc m q (i + 1) l s (cM_k4 h hv.2 hc) (cT_kept hT hv.2 (by decide) (by decide) (by decide)) (by omega) (by omega)
    rw [nI_1, hv.1]
    simp only [zWk]
    refine z_R_if (fun h1 => ?_) (fun h1 => ?_)
    · rw [if_pos h1]; exact z_R_mono (IH _) (fun r σ' q => ⟨q.1, cK_tr hv.2 q.2⟩)
    · rw [if_neg h1]
      refine z_R_if (fun h2 => ?_) (fun h2 => ?_)
      · rw [if_pos h2]; exact z_R_mono (IH _) (fun r σ' q => ⟨q.1, cK_tr hv.2 q.2⟩)
      · rw [if_neg h2]; exact z_R_mono (IH _) (fun r σ' q => ⟨q.1, cK_tr hv.2 q.2⟩)
theorem c_weakest {σ : z_Mem} {c n : Nat} {a : aS} {tv : zTV} (h : cM σ c a) (hw : aW a) (hT : cT σ tv n) (hr : au a < n) (hc : zAp c) : z_R (fX0_weakest c σ) (fun r σ' => r = gWeak tv a ∧ cK (fun k => k = 4) σ σ') := by
  unfold fX0_weakest
  refine z_R_bdE (c_holds h hw) ?_
  have := aN_le hw
  have e := c_weak_loop hw hr hc (aN a) z_FU 0 (-1) σ h hT (by omega) (by simp only [z_FU]; omega)
  rw [nI_0] at e
  exact e
theorem c_gates_loop {c n : Nat} {a : aS} {tv : zTV} (hw : aW a) (hr : au a < n) (hc : zAp c) : ∀ (m q i : Nat) (l : Int32) (σ : z_Mem), cM σ c a → cT σ tv n → i + m = aN a → m < q → z_R (fX0_gates_9 c q (nI (aN a)) l (nI i) σ) (fun r σ' => r = zGt (gH tv a) m i l ∧ cK (fun k => k = 4) σ σ')
  | _, 0, i, l, σ, _, _, _, h => absurd h (Nat.not_lt_zero _)
  | 0, q + 1, i, l, σ, h, hT, hi, hq => by
    have := aN_le hw
    rw [fX0_gates_9, if_pos (nI_le (by omega) (by omega))]
    exact z_R_some ⟨rfl, cK_rf⟩
  | m + 1, q + 1, i, l, σ, h, hT, hi, hq => by
    have := aN_le hw
    rw [fX0_gates_9, if_neg (nI_ge (by omega) (by omega))]
    refine z_R_bd (c_holdFrom h hw hT hr hc (by omega)) (fun v s hv => ?_)
    have IH := fun l => c_gates_loop hw hr hc m q (i + 1) l s (cM_k4 h hv.2 hc) (cT_kept hT hv.2 (by decide) (by decide) (by decide)) (by omega) (by omega)
    rw [nI_1, hv.1]
    simp only [zGt]
    refine z_R_if (fun h1 => ?_) (fun h1 => ?_)
    · rw [if_pos h1]; exact z_R_mono (IH _) (fun r σ' q => ⟨q.1, cK_tr hv.2 q.2⟩)
    · rw [if_neg h1]; exact z_R_mono (IH _) (fun r σ' q => ⟨q.1, cK_tr hv.2 q.2⟩)
theorem c_gates {σ : z_Mem} {c n : Nat} {a : aS} {tv : zTV} (h : cM σ c a) (hw : aW a) (hT : cT σ tv n) (hr : au a < n) (hc : zAp c) : z_R (fX0_gates c σ) (fun r σ' => r = gGates tv a ∧ cK (fun k => k = 4) σ σ') := by
  unfold fX0_gates
  refine z_R_bdE (c_holds h hw) ?_
  have := aN_le hw
  have e := c_gates_loop hw hr hc (aN a) z_FU 0 0 σ h hT (by omega) (by simp only [z_FU]; omega)
  rw [nI_0] at e
  exact e
theorem c_first_loop {c n : Nat} {a : aS} {tv : zTV} (hw : aW a) (hr : au a < n) (hc : zAp c) : ∀ (m q i : Nat) (σ : z_Mem), cM σ c a → cT σ tv n → i + m = aN a → m < q → z_R (fX0_firstGate_7 c q (nI (aN a)) (nI i) σ) (fun r σ' => r = zFg (gH tv a) m i ∧ cK (fun k => k = 4) σ σ')
  | _, 0, i, σ, _, _, _, h => absurd h (Nat.not_lt_zero _)
  | 0, q + 1, i, σ, h, hT, hi, hq => by
    have := aN_le hw
    rw [fX0_firstGate_7, if_pos (nI_le (by omega) (by omega))]
    exact z_R_some ⟨rfl, cK_rf⟩
  | m + 1, q + 1, i, σ, h, hT, hi, hq => by
    have := aN_le hw
    rw [fX0_firstGate_7, if_neg (nI_ge (by omega) (by omega))]
    refine z_R_bd (c_holdFrom h hw hT hr hc (by omega)) (fun v s hv => ?_)
    have IH := c_first_loop hw hr hc m q (i + 1) s (cM_k4 h hv.2 hc) (cT_kept hT hv.2 (by decide) (by decide) (by decide)) (by omega) (by omega)
    rw [nI_1, hv.1]
    simp only [zFg]
    refine z_R_if (fun h1 => ?_) (fun h1 => ?_)
    · rw [if_pos h1]; exact z_R_some ⟨rfl, hv.2⟩
    · rw [if_neg h1]; exact z_R_mono IH (fun r σ' q => ⟨q.1, cK_tr hv.2 q.2⟩)
theorem c_firstGate {σ : z_Mem} {c n : Nat} {a : aS} {tv : zTV} (h : cM σ c a) (hw : aW a) (hT : cT σ tv n) (hr : au a < n) (hc : zAp c) : z_R (fX0_firstGate c σ) (fun r σ' => r = gFirst tv a ∧ cK (fun k => k = 4) σ σ') := by
  unfold fX0_firstGate
  refine z_R_bdE (c_holds h hw) ?_
  have := aN_le hw
  have e := c_first_loop hw hr hc (aN a) z_FU 0 σ h hT (by omega) (by simp only [z_FU]; omega)
  rw [nI_0] at e
  exact e
/-! an hour -/
def gStr (tv : zTV) (a : aS) (p : Nat) : Int32 := z_mx 0 (as_ a p - gSpent tv a p)
/-- the first i of THE RING are SPENT -/
abbrev aPart (tv : zTV) (a : aS) (i : Nat) : aS := (an a, ar a, ak a, am a, fun p => if p ∈ (ar a).take i then gStr tv a p else as_ a p, ah a, ac a, au a)
abbrev aPass (tv : zTV) (a : aS) : aS := (an a, ar a, ak a, am a, fun p => if p ∈ ar a then gStr tv a p else as_ a p, ah a + 1, ac a, au a)
theorem gSpent_eq {tv : zTV} {a b : aS} {p : Nat} (h1 : ak b = ak a) (h2 : am b = am a) (h3 : as_ b p = as_ a p) (h4 : ah b = ah a) (h5 : ac b = ac a) (h6 : au b = au a) (h7 : ar b = ar a) : gSpent tv b p = gSpent tv a p := by
  have e : aEnv b p none = aEnv a p none := by
    funext k
    unfold aEnv aNx
    rw [h2, h3, h4, h5, h7]
  unfold gSpent
  rw [e, h1, h5, h6]
theorem gSpent_in {tv : zTV} {a : aS} {p : Nat} : 0 ≤ (gSpent tv a p).toInt ∧ (gSpent tv a p).toInt ≤ 99 := by
  obtain ⟨n, hn, e⟩ := zb_N (tv (au a) 2 (aEnv a p none))
  have hh : 0 ≤ (zb (tv (au a) 2 (aEnv a p none)) / 2).toInt ∧ (zb (tv (au a) 2 (aEnv a p none)) / 2).toInt ≤ 99 := by
    rw [e, show (2 : Int32) = nI 2 by decide, pk_div (by omega) (by omega) (by omega), nI_toInt (by omega)]
    omega
  have h0 : (0 : Int32).toInt = 0 := rfl
  unfold gSpent
  repeat' split
  all_goals first | (with_reducible exact hh) | (with_reducible exact zb_in _) | omega
theorem gStr_in {tv : zTV} {a : aS} (hw : aW a) {p : Nat} (hp : p < 6) : 0 ≤ (gStr tv a p).toInt ∧ (gStr tv a p).toInt ≤ 99 := by
  obtain ⟨-, -, h3⟩ := hw.2.2.2.2.1 p hp
  have h4 := gSpent_in (tv := tv) (a := a) (p := p)
  have e : (as_ a p - gSpent tv a p).toInt = (as_ a p).toInt - (gSpent tv a p).toInt := by
    rw [Int32.toInt_sub, Int.bmod_eq_of_le (by omega) (by omega)]
  unfold gStr z_mx
  simp only [Int32.lt_iff_toInt_lt, e]
  have h0 : (0 : Int32).toInt = 0 := rfl
  split
  · rw [e]; omega
  · omega
theorem aPart_W {tv : zTV} {a : aS} (hw : aW a) (i : Nat) : aW (aPart tv a i) := by
  obtain ⟨w1, w2, w3, w4, w5, w6, w7⟩ := hw
  refine ⟨w1, w2, w3, w4, fun p hp => ⟨(w5 p hp).1, (w5 p hp).2.1, ?_⟩, w6, w7⟩
  show 0 ≤ (if p ∈ (ar a).take i then gStr tv a p else as_ a p).toInt ∧ (if p ∈ (ar a).take i then gStr tv a p else as_ a p).toInt ≤ 99
  split
  · exact gStr_in ⟨w1, w2, w3, w4, w5, w6, w7⟩ hp
  · exact (w5 p hp).2.2
theorem c_pass_loop {c n : Nat} {a : aS} {tv : zTV} (hw : aW a) (hr : au a < n) (hc : zAp c) : ∀ (m q i : Nat) (σ : z_Mem), cM σ c (aPart tv a i) → cT σ tv n → i + m = (ar a).length → m < q → z_R (fX0_passHour_2 c q (nI i) σ) (fun _ σ' => cM σ' c (aPass tv a) ∧ cK (fun k => k = 4 ∨ k = c ∨ k = c + 3) σ σ')
  | _, 0, i, σ, _, _, _, h => absurd h (Nat.not_lt_zero _)
  | 0, q + 1, i, σ, h, hT, hi, hq => by
    have h6 := aW_len hw
    obtain ⟨g1, g2, g3, g4, g5, g6, g7⟩ := h
    rw [fX0_passHour_2, g2, if_pos (nI_le (by show (ar a).length ≤ i; omega) (by omega))]
    refine z_R_st (z_R_some ⟨⟨by simpa [z_pt_g] using g1, by simpa [z_pt_g] using g2, ?_, by simpa [z_pt_g] using g4, by simpa [z_pt_g] using g5, fun j hj => ?_, fun j hj => by simpa [z_pt_g] using g7 j hj⟩, fun k hk => z_pt_r (by omega)⟩)
    · show _ = ah a + 1
      simp only [z_pt_g, if_true, g3]
    · have := g6 j hj
      refine ⟨by simpa [z_pt_g] using this.1, by simpa [z_pt_g] using this.2.1, ?_⟩
      show _ = if j ∈ ar a then gStr tv a j else as_ a j
      have e3 := this.2.2
      have e4 : as_ (aPart tv a i) j = if j ∈ (ar a).take i then gStr tv a j else as_ a j := rfl
      rw [e4, List.take_of_length_le (by omega)] at e3
      rw [← e3]
      simp [z_pt_g]
  | m + 1, q + 1, i, σ, h, hT, hi, hq => by
    have h6 := aW_len hw
    have hi2 : i < (ar a).length := by omega
    have hW := aPart_W (tv := tv) hw i
    have hp := aR_lt hw hi2
    have h66 := hw.1
    have hpm : (ar a).getD i 0 ∉ (ar a).take i := by
      rw [z_getD hi2]
      intro hmem
      obtain ⟨j, hj, e⟩ := List.getElem_of_mem hmem
      rw [List.getElem_take] at e
      have hj2 : j < i := by
        have := hj
        simp at this
        omega
      exact (List.pairwise_iff_getElem.mp hw.2.1) j i (by omega) hi2 hj2 e
    have es : as_ (aPart tv a i) ((ar a).getD i 0) = as_ a ((ar a).getD i 0) := if_neg hpm
    rw [fX0_passHour_2, h.2.1, if_neg (nI_ge (by show i < (ar a).length; exact hi2) (by show (ar a).length < 2 ^ 31; omega))]
    refine z_R_bdE (c_whoN h hW hi2) (z_R_bdE (c_hasN h hW hp) ?_)
    show z_R (if (1 : Int32) = 0 then _ else z_gd (z_in (nI ((ar a).getD i 0)) 6) _) _
    rw [if_neg (by decide), z_gdT (z_inN (show (ar a).getD i 0 < 6 by omega) (by decide))]
    refine z_R_bd (c_spentBy h hW hT hr hc hp) (fun v s hv => ?_)
    have hMs := cM_k4 h hv.2 hc
    have hTs := cT_kept hT hv.2 (by decide) (by decide) (by decide)
    have e2 : gSpent tv (aPart tv a i) ((ar a).getD i 0) = gSpent tv a ((ar a).getD i 0) := gSpent_eq rfl rfl es rfl rfl rfl rfl
    rw [z_gdT (z_inN (show (ar a).getD i 0 < 6 by omega) (by decide)), nI_1, hv.1]
    refine z_R_st ?_
    have e3 : z_x (nI ((ar (aPart tv a i)).getD i 0)) = (ar a).getD i 0 := z_xN (by show (ar a).getD i 0 < 2 ^ 31; omega)
    rw [e3]
    have e4 : σ.1 (c + 3) ((ar a).getD i 0) = as_ a ((ar a).getD i 0) := by
      rw [(h.2.2.2.2.2.1 _ (by omega)).2.2]; exact es
    have e5 : gSpent tv (aPart tv a i) ((ar (aPart tv a i)).getD i 0) = gSpent tv a ((ar a).getD i 0) := e2
    rw [e4, e5]
    have hz : 5 ≤ c := hc
    refine z_R_mono (c_pass_loop hw hr hc m q (i + 1) _ ?_ (cT_kept (S := fun k => k = c + 3) hTs (fun k hk => z_pt_r hk) ?_ ?_ ?_) (by omega) (by omega)) (fun r σ' q => ⟨q.1, cK_tr (cK_mono hv.2 (fun k hk => Or.inl hk)) (cK_tr (σ' := z_pt s (c + 3) ((ar a).getD i 0) (gStr tv a ((ar a).getD i 0))) (fun k hk => z_pt_r (by simp only [not_or] at hk; omega)) q.2)⟩)
    · obtain ⟨g1, g2, g3, g4, g5, g6, g7⟩ := hMs
      refine ⟨by simpa [z_pt_g] using g1, by simpa [z_pt_g] using g2, by simpa [z_pt_g] using g3, by simpa [z_pt_g] using g4, by simpa [z_pt_g] using g5, fun j hj => ⟨by simpa [z_pt_g] using (g6 j hj).1, by simpa [z_pt_g] using (g6 j hj).2.1, ?_⟩, fun j hj => by simpa [z_pt_g] using g7 j hj⟩
      have e6 := (g6 j hj).2.2
      show _ = if j ∈ (ar a).take (i + 1) then gStr tv a j else as_ a j
      have e7 : s.1 (c + 3) j = if j ∈ (ar a).take i then gStr tv a j else as_ a j := e6
      rw [List.take_succ_eq_append_getElem hi2]
      simp only [z_pt_g, if_true, List.mem_append, List.mem_singleton, ← z_getD hi2]
      by_cases q1 : j = (ar a).getD i 0
      · rw [if_pos q1, if_pos (Or.inr q1), q1]
        rfl
      · rw [if_neg q1, e7]
        by_cases q2 : j ∈ (ar a).take i
        · rw [if_pos q2, if_pos (Or.inl q2)]
        · rw [if_neg q2, if_neg (fun h => h.elim q2 q1)]
    · omega
    · omega
    · omega
theorem aPart_0 {tv : zTV} {a : aS} : aPart tv a 0 = a := by
  simp [aPart]
theorem c_passHour {σ : z_Mem} {c n : Nat} {a : aS} {tv : zTV} (h : cM σ c a) (hw : aW a) (hT : cT σ tv n) (hr : au a < n) (hc : zAp c) : z_R (fX0_passHour c σ) (fun _ σ' => cM σ' c (aPass tv a) ∧ cK (fun k => k = 4 ∨ k = c ∨ k = c + 3) σ σ') := by
  unfold fX0_passHour
  have h6 := aW_len hw
  have e := c_pass_loop (tv := tv) hw hr hc (ar a).length z_FU 0 σ (by rw [aPart_0]; exact h) hT (by omega) (by simp only [z_FU]; omega)
  rw [nI_0] at e
  exact e
theorem aPass_W {tv : zTV} {a : aS} (hw : aW a) (hh : (ah a).toInt < 1100) : aW (aPass tv a) := by
  obtain ⟨w1, w2, w3, w4, w5, w6, w7⟩ := id hw
  refine ⟨w1, w2, w3, w4, fun p hp => ⟨(w5 p hp).1, (w5 p hp).2.1, ?_⟩, ?_, w7⟩
  · show 0 ≤ (if p ∈ ar a then gStr tv a p else as_ a p).toInt ∧ (if p ∈ ar a then gStr tv a p else as_ a p).toInt ≤ 99
    split
    · exact gStr_in hw hp
    · exact (w5 p hp).2.2
  · show 0 ≤ (ah a + 1).toInt ∧ (ah a + 1).toInt ≤ 1100
    rw [Int32.toInt_add, show (1 : Int32).toInt = 1 from rfl, Int.bmod_eq_of_le (by omega) (by omega)]
    omega
