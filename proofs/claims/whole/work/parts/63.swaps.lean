section ZPUB21
/-- what shutBy must do -/
def mSh (g : zG) (G : Int32 → z_Mem → Option (Int32 × z_Mem)) (n : Nat) : Prop := ∀ (τ : z_Mem) (r : List Nat), mG τ (aRing (gA g) r, g.2) → oR (gA g) r → z_R (G (nI n) τ) (fun b τ' => zTf b (oShut (gV g) (gA g) n r) ∧ mG τ' (aRing (gA g) r, g.2))
theorem m_sh_loop {g : zG} {G : Int32 → z_Mem → Option (Int32 × z_Mem)} {n : Nat} {r : List Nat} (hw : gW g) (hr : oR (gA g) r) (hG : mSh g G n) : ∀ (m q k : Nat) (c : Int32) (τ : z_Mem), mG τ (aRing (gA g) r, g.2) → z_bool c → k + m = r.length * r.length → m < q → z_R (fX6_shutBy_21 G q (nI (n + 1)) c (nI k) τ) (fun b τ' => zTf b (c = 1 ∨ ∃ k', k ≤ k' ∧ k' < r.length * r.length ∧ k' / r.length < k' % r.length ∧ oShut (gV g) (gA g) n (oSw r (k' / r.length) (k' % r.length))) ∧ mG τ' (aRing (gA g) r, g.2))
  | m, 0, k, c, τ, _, _, _, h => absurd h (Nat.not_lt_zero _)
  | 0, q + 1, k, c, τ, hm, hc, hk, hq => by
    have hA := hw.1.1
    have hW := oR_W hr hA
    have h6 : r.length ≤ 6 := aW_len hW
    have h36 : r.length * r.length ≤ 36 := Nat.mul_le_mul h6 h6
    have el : τ.1 0 12 = nI r.length := hm.1.2.1
    rw [fX6_shutBy_21, el, pk_mul, if_pos (nI_le (by omega) (by omega)), z_gdT hc]
    refine z_R_some ⟨?_, hm⟩
    rcases hc with rfl | rfl
    · refine Or.inr ⟨rfl, fun q => ?_⟩
      rcases q with q | ⟨k', a, b, _⟩
      · exact absurd q (by decide)
      · omega
    · exact Or.inl ⟨rfl, Or.inl rfl⟩
  | m + 1, q + 1, k, c, τ, hm, hc, hk, hq => by
    have hA := hw.1.1
    have hW := oR_W hr hA
    have h6 : r.length ≤ 6 := aW_len hW
    have h36 : r.length * r.length ≤ 36 := Nat.mul_le_mul h6 h6
    have el : τ.1 0 12 = nI r.length := hm.1.2.1
    have h0 : 0 < r.length := by
      apply Nat.pos_of_ne_zero
      intro e
      rw [e] at hk
      omega
    have hmod : k % r.length < r.length := Nat.mod_lt _ h0
    have hdiv : k / r.length < r.length := Nat.div_lt_of_lt_mul (by omega)
    have hne : ¬ nI r.length = 0 := nI_ne0 h0 (by omega)
    rw [fX6_shutBy_21, el, pk_mul, if_neg (nI_ge (by omega) (by omega))]
    rcases hc with rfl | rfl
    · rw [if_pos rfl, z_gdT hne, z_gdT hne, pk_rem (by omega) h0 (by omega), pk_div (by omega) h0 (by omega), nI_1]
      by_cases e : k % r.length ≤ k / r.length
      · rw [if_pos (nI_le e (by omega))]
        refine z_R_mono (m_sh_loop hw hr hG m q (k + 1) 0 τ hm (Or.inl rfl) (by omega) (by omega)) (fun b t hh => ⟨zTf_iff hh.1 ⟨fun hx => ?_, fun hx => ?_⟩, hh.2⟩)
        · rcases hx with x | ⟨k', x1, x2, x3⟩
          · exact Or.inl x
          · exact Or.inr ⟨k', by omega, x2, x3⟩
        · rcases hx with x | ⟨k', x1, x2, x3, x4⟩
          · exact Or.inl x
          · refine Or.inr ⟨k', ?_, x2, x3, x4⟩
            by_cases ek : k' = k
            · subst ek; omega
            · omega
      · rw [if_neg (nI_ge (by omega) (by omega)), z_gdT hne, z_gdT hne, nI_sub1]
        obtain ⟨t1, e1, m1, k1⟩ := m_change hm.1 hW hdiv hmod
        have g1 : mG t1 (aRing (gA g) (oSw r (k / r.length) (k % r.length)), g.2) := mG_a (g := (aRing (gA g) r, g.2)) hm (mR_c k1) m1
        have hr1 := oSw_R hr hdiv hmod
        obtain ⟨b, t2, e2, tb, g2⟩ := hG t1 _ g1 hr1
        have el2 : t2.1 0 12 = nI r.length := by
          have := g2.1.2.1
          rw [this]
          exact congrArg nI oSw_len
        obtain ⟨t3, e3, m3, k3⟩ := m_change g2.1 (oR_W hr1 hA) (show k / r.length < (oSw r (k / r.length) (k % r.length)).length by rw [oSw_len]; exact hdiv) (show k % r.length < (oSw r (k / r.length) (k % r.length)).length by rw [oSw_len]; exact hmod)
        have g3 : mG t3 (aRing (gA g) r, g.2) := by
          have := mG_a (g := (aRing (gA g) (oSw r (k / r.length) (k % r.length)), g.2)) g2 (mR_c k3) m3
          have e : aSwap (gA (aRing (gA g) (oSw r (k / r.length) (k % r.length)), g.2)) (k / r.length) (k % r.length) = aRing (gA g) r := by
            show aRing (gA g) (oSw (oSw r (k / r.length) (k % r.length)) (k / r.length) (k % r.length)) = _
            rw [oSw_oSw hdiv hmod]
          rw [e] at this
          exact this
        rw [z_bdE e1, z_bdE e2, el2, z_gdT hne, z_gdT hne, pk_rem (by omega) h0 (by omega), pk_div (by omega) h0 (by omega), z_bdE e3]
        refine z_R_mono (m_sh_loop hw hr hG m q (k + 1) b t3 g3 (zTf_bool tb) (by omega) (by omega)) (fun b' t hh => ⟨zTf_iff hh.1 ⟨fun hx => ?_, fun hx => ?_⟩, hh.2⟩)
        · rcases hx with x | ⟨k', x1, x2, x3⟩
          · rcases tb with ⟨_, t⟩ | ⟨t0, _⟩
            · exact Or.inr ⟨k, by omega, by omega, by omega, t⟩
            · rw [t0] at x; exact absurd x (by decide)
          · exact Or.inr ⟨k', by omega, x2, x3⟩
        · rcases hx with x | ⟨k', x1, x2, x3, x4⟩
          · exact absurd x (by decide)
          · by_cases ek : k' = k
            · subst ek
              rcases tb with ⟨t1, _⟩ | ⟨_, t⟩
              · exact Or.inl t1
              · exact absurd x4 t
            · exact Or.inr ⟨k', by omega, x2, x3, x4⟩
    · rw [if_neg z_10, z_gdT (Or.inr rfl)]
      exact z_R_some ⟨Or.inl ⟨rfl, Or.inl rfl⟩, hm⟩
theorem m_shuts {g : zG} (hw : gW g) : ∀ (n f : Nat), n < f → n < 1000 → mSh g (zGH f) n
  | _, 0, h, _ => absurd h (Nat.not_lt_zero _)
  | 0, f + 1, _, _ => fun τ r hm hr => by
    show z_R (fX6_shutBy_b (zGH f) (nI 0) τ) _
    unfold fX6_shutBy_b
    rw [if_pos (by decide)]
    refine z_R_bd (m_gates hm.1 (oR_W hr hw.1.1) hm.2.2.1 hw.1.2.1) (fun v t hv => ?_)
    have hm' := mG_k hm hv.2
    rw [hv.1]
    refine z_R_if (fun e => z_R_some ⟨Or.inl ⟨rfl, e⟩, hm'⟩) (fun e => z_R_some ⟨Or.inr ⟨rfl, e⟩, hm'⟩)
  | n + 1, f + 1, hf, hn => fun τ r hm hr => by
    have hW := oR_W hr hw.1.1
    have h6 : r.length ≤ 6 := aW_len hW
    have h36 : r.length * r.length ≤ 36 := Nat.mul_le_mul h6 h6
    show z_R (fX6_shutBy_b (zGH f) (nI (n + 1)) τ) _
    unfold fX6_shutBy_b
    rw [if_neg (nI_ne0 (by omega) (by omega))]
    have L := m_sh_loop hw hr (m_shuts hw n f (by omega) (by omega)) (r.length * r.length) z_FU 0 0 τ hm (Or.inl rfl) (by omega) (by simp only [z_FU]; omega)
    rw [nI_0] at L
    refine z_R_mono L (fun b s hh => ⟨zTf_iff hh.1 ⟨fun hx => ?_, fun hx => ?_⟩, hh.2⟩)
    · rcases hx with e | ⟨k', _, x2, x3, x4⟩
      · exact absurd e (by decide)
      · have h0 : 0 < r.length := by
          apply Nat.pos_of_ne_zero
          intro e
          rw [e] at x2
          omega
        have hmod : k' % r.length < r.length := Nat.mod_lt _ h0
        refine ⟨k' % r.length, k' / r.length, hmod, x3, ?_⟩
        rw [oSw_comm hmod (by omega)]
        exact x4
    · obtain ⟨i', j', x2, x3, x4⟩ := hx
      have e1 : (j' * r.length + i') / r.length = j' := by
        rw [Nat.mul_comm, Nat.mul_add_div (by omega), Nat.div_eq_of_lt x2, Nat.add_zero]
      have e2 : (j' * r.length + i') % r.length = i' := by
        rw [Nat.mul_comm, Nat.mul_add_mod, Nat.mod_eq_of_lt x2]
      refine Or.inr ⟨j' * r.length + i', by omega, ?_, ?_, ?_⟩
      · have := Nat.mul_le_mul_right r.length (show j' + 1 ≤ r.length by omega)
        rw [Nat.succ_mul] at this
        omega
      · rw [e1, e2]; exact x3
      · rw [e1, e2, oSw_comm (by omega) x2]; exact x4
variable {σ τ : z_Mem} {g : zG}
theorem q_swaps {g : zG} (hw : gW g) : ∀ (m q i : Nat) (σ τ : z_Mem), cG σ g → mG τ g → cO σ (gV g) (gA g) (ar (gA g)) → i + m = 3 → m < q → zSame (fX1_fewestChanges_2 q (nI i) σ) (fX6_swaps_2 q (nI i) τ)
  | m, 0, i, σ, τ, _, _, _, _, h => absurd h (Nat.not_lt_zero _)
  | 0, q + 1, i, σ, τ, hc, hm, hO, hi, hq => by
    have : i = 3 := by omega
    subst this
    rw [fX1_fewestChanges_2, fX6_swaps_2, if_pos (by decide), if_pos (by decide)]
    exact zSame_ret hc hm hw
  | m + 1, q + 1, i, σ, τ, hc, hm, hO, hi, hq => by
    rw [fX1_fewestChanges_2, fX6_swaps_2, if_neg (by rw [show (2 : Int32) = nI 2 by decide]; exact nI_nlt (by omega) (by decide)), if_neg (z_nle 3 3 (by decide) (by omega) (by decide))]
    obtain ⟨b, s1, e1, t1, o1, k1⟩ := c_closes (tv := gV g) hw.1.1 i 64 (by omega) (by omega) σ (ar (gA g)) hO oR_rf
    obtain ⟨b', s2, e2, t2, m2⟩ := m_shuts hw i 64 (by omega) (by omega) τ (ar (gA g)) hm oR_rf
    have hm2 : mG s2 g := m2
    have e1' : fX1_closesBy (nI i) σ = some (b, s1) := e1
    have e2' : fX6_shutBy (nI i) τ = some (b', s2) := e2
    have hc1 := cG_k hc (zScr_24 k1)
    rw [z_bdE e1', z_bdE e2', nI_1]
    rcases t1 with ⟨rfl, p1⟩ | ⟨rfl, p1⟩
    · rcases t2 with ⟨rfl, p2⟩ | ⟨rfl, p2⟩
      · rw [if_neg z_10, if_neg z_10]
        exact zSame_ret hc1 hm2 hw
      · exact absurd p1 p2
    · rcases t2 with ⟨rfl, p2⟩ | ⟨rfl, p2⟩
      · exact absurd p2 p1
      · rw [if_pos rfl, if_pos rfl]
        exact q_swaps hw m q (i + 1) s1 s2 hc1 hm2 o1 (by omega) (by omega)
theorem p_swaps (hc : cG σ g) (hm : mG τ g) (hw : gW g) : zSame (fX5_swaps σ) (fX6_swaps τ) := by
  unfold fX5_swaps fX6_swaps fX1_fewestChanges
  obtain ⟨r1, s1, f1, o1, o2, k1⟩ := c_look hw.1.1 hw.1.2.1 hc.1 hc.2.2.1
  rw [z_bdE f1]
  have Q := q_swaps hw 3 z_FU 0 s1 τ (cG_k hc k1) hm o1 (by omega) (by decide)
  rw [nI_0] at Q
  have e : ∀ o : Option (Int32 × z_Mem), z_bd o (fun r2 s2 => some (r2, s2)) = o := fun o => by
    unfold z_bd
    cases o <;> rfl
  rw [e]
  exact Q
end ZPUB21
