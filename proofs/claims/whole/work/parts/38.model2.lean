theorem z_mn_le {x y : Int32} : (if y ≤ x then y else x) = z_mn x y := by
  unfold z_mn
  by_cases h : y < x
  · rw [if_pos h, if_pos (Int32.le_of_lt h)]
  · rw [if_neg h]
    by_cases h2 : y ≤ x
    · rw [if_pos h2]; exact Int32.le_antisymm h2 (Int32.not_lt.mp h)
    · rw [if_neg h2]
theorem m_hold {τ : z_Mem} {i n : Nat} {a : aS} {tv : zTV} (h : mM τ a) (hw : aW a) (hT : mT τ tv n) (hr : au a < n) (hi : i < (ar a).length) : z_R (fX6_hold (nI i) τ) (fun r τ' => r = gH tv a i ∧ mK τ τ') := by
  have h6 := aW_len hw
  have hm : (i + 1) % (ar a).length < (ar a).length := Nat.mod_lt _ (by omega)
  obtain ⟨g1, g2, g3, g4, g5, g6, g7⟩ := id h
  unfold fX6_hold
  simp only [g2, nI_1]
  have er : nI (i + 1) - nI (i + 1) / nI (ar a).length * nI (ar a).length = nI ((i + 1) % (ar a).length) := pk_rem (by omega) (by omega) (by omega)
  simp only [er]
  rw [z_gdT (z_inN (by omega) (by decide)), z_gdT (nI_ne0 (by omega) (by omega)), z_gdT (z_inN (by omega) (by decide)), z_xN (by omega), z_xN (by omega), g7 i hi, g7 _ hm]
  refine z_R_bd (m_gripsOf h hw hT hr (aR_lt hw hi) (aR_lt hw hm)) (fun v s hv => ?_)
  refine z_R_bd (m_gripsOf (mM_kept h hv.2) hw (mT_k hT hv.2) hr (aR_lt hw hm) (aR_lt hw hi)) (fun v2 s2 hv2 => ?_)
  have e : gH tv a i = if v2 ≤ v then v2 else v := by
    rw [z_mn_le, hv.1, hv2.1]; rfl
  refine z_R_if (fun c => z_R_some ⟨by rw [e, if_pos c], mK_tr hv.2 hv2.2⟩) (fun c => z_R_some ⟨by rw [e, if_neg c], mK_tr hv.2 hv2.2⟩)
theorem m_weak_loop {n : Nat} {a : aS} {tv : zTV} (hw : aW a) (hr : au a < n) : ∀ (m q i : Nat) (l : Int32) (τ : z_Mem), mM τ a → mT τ tv n → i + m = aN a → m < q → z_R (fX6_weakest_4 q l (nI i) τ) (fun r τ' => r = zWk (gH tv a) m i l ∧ mK τ τ')
  | _, 0, i, l, τ, _, _, _, h => absurd h (Nat.not_lt_zero _)
  | 0, q + 1, i, l, τ, h, hT, hi, hq => by
    have h6 := aW_len hw
    rw [fX6_weakest_4, h.2.1]
    refine z_R_if (fun _ => z_R_some ⟨rfl, mK_rf⟩) (fun c => z_R_if (fun _ => z_R_some ⟨rfl, mK_rf⟩) (fun c2 => ?_))
    exfalso
    unfold aN at hi
    by_cases q1 : (ar a).length < 2
    · exact c2 (by rw [show (1 : Int32) = nI 1 by decide]; exact nI_le (by omega) (by omega))
    · rw [if_neg q1] at hi
      exact c (nI_le (by omega) (by omega))
  | m + 1, q + 1, i, l, τ, h, hT, hi, hq => by
    have h6 := aW_len hw
    have hl : ¬ (ar a).length < 2 := by
      intro q1
      unfold aN at hi
      rw [if_pos q1] at hi
      omega
    have hN : aN a = (ar a).length := if_neg hl
    rw [fX6_weakest_4, h.2.1, if_neg (nI_ge (by omega) (by omega)), if_neg (by rw [show (1 : Int32) = nI 1 by decide]; exact nI_ge (by omega) (by omega))]
    refine z_R_bd (m_hold h hw hT hr (by omega)) (fun v s hv => ?_)
    have IH := fun l => m_weak_loop hw hr m q (i + 1) l s (mM_kept h hv.2) (mT_k hT hv.2) (by omega) (by omega)
    rw [nI_1, hv.1]
    simp only [zWk]
    refine z_R_if (fun h1 => ?_) (fun h1 => ?_)
    · rw [if_pos h1]; exact z_R_mono (IH _) (fun r σ' q => ⟨q.1, mK_tr hv.2 q.2⟩)
    · rw [if_neg h1]
      refine z_R_if (fun h2 => ?_) (fun h2 => ?_)
      · rw [if_pos h2]; exact z_R_mono (IH _) (fun r σ' q => ⟨q.1, mK_tr hv.2 q.2⟩)
      · rw [if_neg h2]; exact z_R_mono (IH _) (fun r σ' q => ⟨q.1, mK_tr hv.2 q.2⟩)
theorem m_weakest {τ : z_Mem} {n : Nat} {a : aS} {tv : zTV} (h : mM τ a) (hw : aW a) (hT : mT τ tv n) (hr : au a < n) : z_R (fX6_weakest τ) (fun r τ' => r = gWeak tv a ∧ mK τ τ') := by
  unfold fX6_weakest
  have := aN_le hw
  have e := m_weak_loop hw hr (aN a) z_FU 0 (-1) τ h hT (by omega) (by simp only [z_FU]; omega)
  rw [nI_0] at e
  exact e
theorem m_gates_loop {n : Nat} {a : aS} {tv : zTV} (hw : aW a) (hr : au a < n) : ∀ (m q i : Nat) (l : Int32) (τ : z_Mem), mM τ a → mT τ tv n → i + m = aN a → m < q → z_R (fX6_gates_4 q l (nI i) τ) (fun r τ' => r = zGt (gH tv a) m i l ∧ mK τ τ')
  | _, 0, i, l, τ, _, _, _, h => absurd h (Nat.not_lt_zero _)
  | 0, q + 1, i, l, τ, h, hT, hi, hq => by
    have h6 := aW_len hw
    rw [fX6_gates_4, h.2.1]
    refine z_R_if (fun _ => z_R_some ⟨rfl, mK_rf⟩) (fun c => z_R_if (fun _ => z_R_some ⟨rfl, mK_rf⟩) (fun c2 => ?_))
    exfalso
    unfold aN at hi
    by_cases q1 : (ar a).length < 2
    · exact c2 (by rw [show (1 : Int32) = nI 1 by decide]; exact nI_le (by omega) (by omega))
    · rw [if_neg q1] at hi
      exact c (nI_le (by omega) (by omega))
  | m + 1, q + 1, i, l, τ, h, hT, hi, hq => by
    have h6 := aW_len hw
    have hl : ¬ (ar a).length < 2 := by
      intro q1
      unfold aN at hi
      rw [if_pos q1] at hi
      omega
    have hN : aN a = (ar a).length := if_neg hl
    rw [fX6_gates_4, h.2.1, if_neg (nI_ge (by omega) (by omega)), if_neg (by rw [show (1 : Int32) = nI 1 by decide]; exact nI_ge (by omega) (by omega))]
    refine z_R_bd (m_hold h hw hT hr (by omega)) (fun v s hv => ?_)
    have IH := fun l => m_gates_loop hw hr m q (i + 1) l s (mM_kept h hv.2) (mT_k hT hv.2) (by omega) (by omega)
    rw [nI_1, hv.1]
    simp only [zGt]
    refine z_R_if (fun h1 => ?_) (fun h1 => ?_)
    · rw [if_pos h1]; exact z_R_mono (IH _) (fun r σ' q => ⟨q.1, mK_tr hv.2 q.2⟩)
    · rw [if_neg h1, Int32.add_zero]; exact z_R_mono (IH _) (fun r σ' q => ⟨q.1, mK_tr hv.2 q.2⟩)
theorem m_gates {τ : z_Mem} {n : Nat} {a : aS} {tv : zTV} (h : mM τ a) (hw : aW a) (hT : mT τ tv n) (hr : au a < n) : z_R (fX6_gates τ) (fun r τ' => r = gGates tv a ∧ mK τ τ') := by
  unfold fX6_gates
  have := aN_le hw
  have e := m_gates_loop hw hr (aN a) z_FU 0 0 τ h hT (by omega) (by simp only [z_FU]; omega)
  rw [nI_0] at e
  exact e
/-- from the last one down: the first GATE -/
def zFd (f : Nat → Int32) : Nat → Int32 → Int32
  | 0, l => l
  | m + 1, l => zFd f m (if f m = 0 then nI m else l)
def zFx (f : Nat → Int32) : Nat → Nat → Int32 → Int32
  | 0, _, l => l
  | k + 1, i, l => if f i = 0 then nI i else zFx f k (i + 1) l
theorem zFx_g (f : Nat → Int32) : ∀ (k i : Nat), zFx f k i (-1) = zFg f k i
  | 0, _ => rfl
  | k + 1, i => by rw [zFx, zFg, zFx_g f k (i + 1)]
theorem zFx_last (f : Nat → Int32) : ∀ (k i : Nat) (l : Int32), zFx f (k + 1) i l = zFx f k i (if f (i + k) = 0 then nI (i + k) else l)
  | 0, i, l => by simp [zFx]
  | k + 1, i, l => by
    rw [zFx, zFx_last f k (i + 1) l, zFx, show i + 1 + k = i + (k + 1) by omega]
theorem zFd_x (f : Nat → Int32) : ∀ (m : Nat) (l : Int32), zFd f m l = zFx f m 0 l
  | 0, _ => rfl
  | m + 1, l => by rw [zFd, zFd_x f m, zFx_last, Nat.zero_add]
theorem zFd_m1 (f : Nat → Int32) (m : Nat) : zFd f m (-1) = zFg f m 0 := by rw [zFd_x, zFx_g]
theorem m_first_loop {n : Nat} {a : aS} {tv : zTV} (hw : aW a) (hr : au a < n) (h2 : ¬ (ar a).length < 2) : ∀ (m q : Nat) (l : Int32) (τ : z_Mem), mM τ a → mT τ tv n → m ≤ (ar a).length → m < q → z_R (fX6_firstGate_9 q l (nI m - 1) τ) (fun r τ' => r = zFd (gH tv a) m l ∧ mK τ τ')
  | _, 0, l, τ, _, _, _, h => absurd h (Nat.not_lt_zero _)
  | 0, q + 1, l, τ, h, hT, hi, hq => by
    rw [fX6_firstGate_9, if_pos (by decide)]
    exact z_R_some ⟨rfl, mK_rf⟩
  | m + 1, q + 1, l, τ, h, hT, hi, hq => by
    have h6 := aW_len hw
    rw [nI_sub1, fX6_firstGate_9, h.2.1, if_neg (nI_pos (by omega)), if_neg (by rw [show (1 : Int32) = nI 1 by decide]; exact nI_ge (by omega) (by omega))]
    refine z_R_bd (m_hold h hw hT hr (by omega)) (fun v s hv => ?_)
    have IH := fun l => m_first_loop hw hr h2 m q l s (mM_kept h hv.2) (mT_k hT hv.2) (by omega) (by omega)
    have em : nI m + (-1 : Int32) = nI m - 1 := by
      rw [Int32.sub_eq_add_neg]
    rw [hv.1, em]
    simp only [zFd]
    refine z_R_if (fun h1 => ?_) (fun h1 => ?_)
    · rw [if_pos h1]; exact z_R_mono (IH _) (fun r σ' q => ⟨q.1, mK_tr hv.2 q.2⟩)
    · rw [if_neg h1]; exact z_R_mono (IH _) (fun r σ' q => ⟨q.1, mK_tr hv.2 q.2⟩)
theorem m_firstGate {τ : z_Mem} {n : Nat} {a : aS} {tv : zTV} (h : mM τ a) (hw : aW a) (hT : mT τ tv n) (hr : au a < n) : z_R (fX6_firstGate τ) (fun r τ' => r = gFirst tv a ∧ mK τ τ') := by
  have h6 := aW_len hw
  unfold fX6_firstGate gFirst
  rw [h.2.1]
  by_cases h2 : (ar a).length < 2
  · rw [show z_FU = 999 + 1 from rfl, fX6_firstGate_9, h.2.1]
    have e0 : zFg (gH tv a) (aN a) 0 = -1 := by unfold aN; rw [if_pos h2]; rfl
    rw [e0]
    refine z_R_if (fun _ => z_R_some ⟨rfl, mK_rf⟩) (fun _ => ?_)
    rw [if_pos (by rw [show (1 : Int32) = nI 1 by decide]; exact nI_le (by omega) (by omega))]
    exact z_R_some ⟨rfl, mK_rf⟩
  · have hN : aN a = (ar a).length := if_neg h2
    rw [hN, ← zFd_m1]
    exact m_first_loop hw hr h2 (ar a).length z_FU (-1) τ h hT (Nat.le_refl _) (by simp only [z_FU]; omega)
