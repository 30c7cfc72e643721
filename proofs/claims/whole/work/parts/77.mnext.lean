section ZMN2
variable {L : List Int32} {t : Nat}
/-- what stays of the counts: how many are open, whether it is bad -/
def mNx (τ τ' : z_Mem) : Prop := mQr τ τ' ∧ τ'.1 0 25 = τ.1 0 25 ∧ τ'.1 0 26 = τ.1 0 26
theorem tSg_or {b : Int32} : tSg b = true ↔ b = 40 ∨ b = 41 ∨ b = 59 ∨ b = 43 ∨ b = 45 ∨ b = 42 ∨ b = 60 ∨ b = 61 := by
  unfold tSg
  simp [or_assoc]
theorem m_sign_if {b : Int32} {α : Type} {x y : Option α} : (if b = (40 : Int32) then x else (if b = (41 : Int32) then x else (if b = (59 : Int32) then x else (if b = (43 : Int32) then x else (if b = (45 : Int32) then x else (if b = (42 : Int32) then x else (if b = (60 : Int32) then x else (if b = (61 : Int32) then x else y)))))))) = if tSg b = true then x else y := by
  by_cases h1 : b = 40
  · rw [if_pos h1, if_pos (tSg_or.mpr (by simp [h1]))]
  by_cases h2 : b = 41
  · rw [if_neg h1, if_pos h2, if_pos (tSg_or.mpr (by simp [h2]))]
  by_cases h3 : b = 59
  · rw [if_neg h1, if_neg h2, if_pos h3, if_pos (tSg_or.mpr (by simp [h3]))]
  by_cases h4 : b = 43
  · rw [if_neg h1, if_neg h2, if_neg h3, if_pos h4, if_pos (tSg_or.mpr (by simp [h4]))]
  by_cases h5 : b = 45
  · rw [if_neg h1, if_neg h2, if_neg h3, if_neg h4, if_pos h5, if_pos (tSg_or.mpr (by simp [h5]))]
  by_cases h6 : b = 42
  · rw [if_neg h1, if_neg h2, if_neg h3, if_neg h4, if_neg h5, if_pos h6, if_pos (tSg_or.mpr (by simp [h6]))]
  by_cases h7 : b = 60
  · rw [if_neg h1, if_neg h2, if_neg h3, if_neg h4, if_neg h5, if_neg h6, if_pos h7, if_pos (tSg_or.mpr (by simp [h7]))]
  by_cases h8 : b = 61
  · rw [if_neg h1, if_neg h2, if_neg h3, if_neg h4, if_neg h5, if_neg h6, if_neg h7, if_pos h8, if_pos (tSg_or.mpr (by simp [h8]))]
  · rw [if_neg h1, if_neg h2, if_neg h3, if_neg h4, if_neg h5, if_neg h6, if_neg h7, if_neg h8, if_neg (fun q => by
      rcases tSg_or.mp q with q | q | q | q | q | q | q | q
      · exact h1 q
      · exact h2 q
      · exact h3 q
      · exact h4 q
      · exact h5 q
      · exact h6 q
      · exact h7 q
      · exact h8 q)]
theorem m_blank (hL : tOk L) {P : Unit → z_Mem → Prop} : ∀ (m q i : Nat) (τ : z_Mem), mBy τ L t → τ.1 0 21 = nI i → i ≤ L.length → i + m = L.length + 1 → m < q → (∀ q' τ', mNx τ τ' → τ'.1 0 21 = nI (tRun L tBl (L.length + 1) i) → z_R (fX6_next_0 (q' + 1) τ') P) → z_R (fX6_next_0 q τ) P
  | m, 0, i, τ, _, _, _, _, h, _ => absurd h (Nat.not_lt_zero _)
  | m, q + 1, i, τ, h, h3, hi, hm, hq, hK => by
    have hl := hL.1
    by_cases hb : tBl (tB L i) = true
    · have hlt : i < L.length := by
        apply Classical.byContradiction
        intro e
        rw [tB_out (by omega)] at hb
        exact absurd hb (by decide)
      match m, hm, hq with
      | 0, hm, hq => omega
      | m + 1, hm, hq =>
        have IH := m_blank hL (P := P) m q (i + 1) (z_pt τ 0 21 (nI (i + 1))) (mBy_q h (mQr_pt (by omega))) z_pt_1 (by omega) (by omega) (by omega) (fun q' τ' c1 c2 => hK q' τ' ⟨mQr_tr (mQr_pt (by omega)) c1.1, by rw [c1.2.1, z_pt_2 (by decide)], by rw [c1.2.2, z_pt_2 (by decide)]⟩ (by rw [c2, ← tRun_step tBl_1 hb]))
        rw [fX6_next_0, h3, z_bdE (m_byteAt h hl (by omega))]
        by_cases e32 : tB L i = 32
        · rw [if_pos e32, z_stE, h3, nI_1]
          exact IH
        · have e10 : tB L i = 10 := by
            unfold tBl at hb
            simp [e32] at hb
            exact hb
          rw [if_neg e32, h3, z_bdE (m_byteAt h hl (by omega)), if_pos e10, z_stE, h3, nI_1]
          exact IH
    · exact hK q τ ⟨mQr_rf, rfl, rfl⟩ (by rw [h3, tRun_stop hb])
theorem tSl_bytes (hL : tOk L) {s e : Nat} {b : Int32} (hb : b ∈ tSl L s e) : b ∈ L := List.mem_of_mem_drop (List.mem_of_mem_take hb)
theorem m_next (hL : tOk L) {p : Nat} {τ : z_Mem} (h : mBy τ L t) (h3 : τ.1 0 21 = nI p) (hp : p ≤ L.length) : z_R (fX6_next τ) (fun _ τ' => mNx τ τ' ∧ mTk τ' L p) := by
  have hl := hL.1
  have hsle := tS_le (L := L) hp
  have fN := tN_le hL hp
  unfold fX6_next
  refine m_blank (P := fun _ τ' => mNx τ τ' ∧ mTk τ' L p) hL (L.length + 1 - p) z_FU p τ h h3 hp (by omega) (by simp only [z_FU]; omega) (fun q s hk h3s => ?_)
  have h3s' : s.1 0 21 = nI (tS L p) := h3s
  have hs : mBy s L t := mBy_q h hk.1
  have hnb : tBl (tB L (tS L p)) = false := tRun_end tBl_1 (L.length + 1) p (by omega)
  have n32 : ¬ tB L (tS L p) = 32 := fun e => by rw [e] at hnb; exact absurd hnb (by decide)
  have n10 : ¬ tB L (tS L p) = 10 := fun e => by rw [e] at hnb; exact absurd hnb (by decide)
  rw [fX6_next_0, h3s', z_bdE (m_byteAt hs hl (by omega)), if_neg n32, h3s', z_bdE (m_byteAt hs hl (by omega)), if_neg n10, z_stE]
  rw [h3s']
  generalize hs1 : z_pt s 0 23 (nI (tS L p)) = s1
  have b1 : mBy s1 L t := by rw [← hs1]; exact mBy_q hs (mQr_pt (by omega))
  have e211 : s1.1 0 21 = nI (tS L p) := by rw [← hs1, z_pt_2 (by decide)]; exact h3s'
  rw [e211, z_bdE (m_byteAt b1 hl (by omega)), z_stE]
  generalize hs2 : z_pt s1 0 22 4 = s2
  have k2 : mNx τ s2 := by
    rw [← hs2, ← hs1]
    exact ⟨mQr_tr hk.1 (mQr_tr (mQr_pt (by omega)) (mQr_pt (by omega))), by rw [z_pt_2 (by decide), z_pt_2 (by decide)]; exact hk.2.1, by rw [z_pt_2 (by decide), z_pt_2 (by decide)]; exact hk.2.2⟩
  have b2 : mBy s2 L t := mBy_q h k2.1
  have e21 : s2.1 0 21 = nI (tS L p) := by rw [← hs2, z_pt_2 (by decide)]; exact e211
  have e22 : s2.1 0 22 = 4 := by rw [← hs2, z_pt_1]
  have e23 : s2.1 0 23 = nI (tS L p) := by rw [← hs2, z_pt_2 (by decide), ← hs1, z_pt_1]
  have e20 : s2.1 0 20 = nI L.length := b2.2.1
  by_cases b0 : tB L (tS L p) = -1
  · have eN : tN L p = tS L p := by unfold tN; rw [if_pos b0]
    have eT : tT L p = 0 := by unfold tT; rw [if_pos b0]
    have eS : tS L p = L.length := by have := (tB_neg hL).mp b0; omega
    rw [b0, if_neg (by decide), z_stE, z_stE, z_pt_2 (by decide), e20]
    refine z_R_some ⟨⟨mQr_tr k2.1 (mQr_tr (mQr_pt (by omega)) (mQr_pt (by omega))), by rw [z_pt_2 (by decide), z_pt_2 (by decide)]; exact k2.2.1, by rw [z_pt_2 (by decide), z_pt_2 (by decide)]; exact k2.2.2⟩, ?_, fun _ => ?_, ?_⟩
    · rw [z_pt_1, eS]
    · rw [z_pt_2 (by decide), z_pt_2 (by decide), eN]; exact e21
    · rw [eT, z_pt_2 (by decide), z_pt_1]
      exact ⟨fun _ => rfl, fun q => absurd q (by decide), fun q => absurd q (by decide), fun q => absurd q (by decide), fun q => absurd q (by decide), fun q => absurd q (by decide), fun q => absurd q (by decide), fun _ => rfl⟩
  have hin := tB_in hL (show tS L p < L.length from Classical.byContradiction fun q => b0 (tB_out (by omega)))
  rw [if_pos (show (0 : Int32) ≤ tB L (tS L p) by rw [Int32.le_iff_toInt_le]; exact hin.1), z_bdE m_inSm]
  by_cases b1' : tSm (tB L (tS L p)) = true
  · have nd : ¬ tDg (tB L (tS L p)) = true := fun q => by
      have h1 := tDg_in q
      have h2 := tSm_in b1'
      omega
    have eN : tN L p = tRun L tSm (L.length + 1) (tS L p) := by unfold tN; rw [if_neg b0, if_neg nd, if_pos b1']
    have eT : tT L p = tWord (tSl L (tS L p) (tN L p)) := by unfold tT; rw [if_neg b0, if_neg nd, if_pos b1']
    rw [if_pos b1', if_neg z_10, z_stE]
    obtain ⟨u, s3, f3, q1, q2, q3, q4, q5, q6⟩ := m_word_run hL (L.length + 1 - tS L p) z_FU (tS L p) (z_pt s2 0 22 1) (mBy_q b2 (mQr_pt (by omega))) (by rw [z_pt_2 (by decide)]; exact e21) hsle (by omega) (by simp only [z_FU]; omega)
    rw [f3]
    have q3' : s3.1 0 22 = 1 := by rw [q3, z_pt_1]
    refine z_R_some ⟨⟨mQr_tr k2.1 (mQr_tr (mQr_pt (by omega)) q1), by rw [q5, z_pt_2 (by decide)]; exact k2.2.1, by rw [q6, z_pt_2 (by decide)]; exact k2.2.2⟩, ?_, fun _ => ?_, ?_⟩
    · rw [q4, z_pt_2 (by decide)]; exact e23
    · rw [q2, eN]
    · rw [q3', eT]
      have hw : ∀ c : Int32, c = 0 ∨ c = 2 ∨ tSg c = true → ¬ tWord (tSl L (tS L p) (tN L p)) = c := fun c hc e => by
        rcases tWord_in (tSl L (tS L p) (tN L p)) with e1 | ⟨k, hk, -, e1⟩
        · rw [e1] at e
          subst e
          rcases hc with q | q | q <;> exact absurd q (by decide)
        · rw [e1] at e
          subst e
          rcases hc with q | q | q
          · exact nI_ne0 (by omega) (by omega) q
          · rw [show (2 : Int32) = nI 2 by decide, z_eq_nI (by omega) (by omega)] at q; omega
          · rcases tSg_or.mp q with q | q | q | q | q | q | q | q
            · rw [show (40 : Int32) = nI 40 by decide, z_eq_nI (by omega) (by omega)] at q; omega
            · rw [show (41 : Int32) = nI 41 by decide, z_eq_nI (by omega) (by omega)] at q; omega
            · rw [show (59 : Int32) = nI 59 by decide, z_eq_nI (by omega) (by omega)] at q; omega
            · rw [show (43 : Int32) = nI 43 by decide, z_eq_nI (by omega) (by omega)] at q; omega
            · rw [show (45 : Int32) = nI 45 by decide, z_eq_nI (by omega) (by omega)] at q; omega
            · rw [show (42 : Int32) = nI 42 by decide, z_eq_nI (by omega) (by omega)] at q; omega
            · rw [show (60 : Int32) = nI 60 by decide, z_eq_nI (by omega) (by omega)] at q; omega
            · rw [show (61 : Int32) = nI 61 by decide, z_eq_nI (by omega) (by omega)] at q; omega
      exact ⟨fun q => absurd q (hw 0 (Or.inl rfl)), fun q => absurd q (hw 2 (Or.inr (Or.inl rfl))), fun q => absurd rfl (hw _ (Or.inr (Or.inr q))), fun _ => rfl, fun _ => Or.inl rfl, fun _ => b1', fun q => absurd q (by decide), fun q => absurd q (by decide)⟩
  rw [if_neg b1', if_pos rfl, z_bdE m_inDg]
  by_cases b2' : tDg (tB L (tS L p)) = true
  · have eN : tN L p = tRun L tDg (L.length + 1) (tS L p) := by unfold tN; rw [if_neg b0, if_pos b2']
    have eT : tT L p = if tN L p - tS L p ≤ 4 then 2 else 1 := by unfold tT; rw [if_neg b0, if_pos b2']
    rw [if_pos b2', if_neg z_10, z_stE, z_stE]
    have D := m_digit_run (P := fun _ τ' => mNx τ τ' ∧ mTk τ' L p) (K := fun l2 σ => if l2 ≤ (4 : Int32) then (z_st (z_pt σ 0 22 (2 : Int32)) (fun s21 => some ((), s21))) else (z_st (z_pt σ 0 22 (4 : Int32)) (fun s22 => some ((), s22)))) (s := tS L p) hL (L.length + 1 - tS L p) z_FU (tS L p) 0 (z_pl (z_pt s2 0 22 2) 0 24 0) (mBy_q b2 (mQr_tr (mQr_pt (by omega)) mQr_pl)) (by rw [z_pl_1, z_pt_2 (by decide)]; exact e21) (Nat.le_refl _) hsle (fun _ => ⟨by rw [z_pl_2]; rfl, by simp⟩) (by omega) (by simp only [z_FU]; omega) (fun s3 c1 c2 c3 c5 c6 c4 => by
      rw [← eN] at c2 c4 ⊢
      have n3 : mNx τ s3 := ⟨mQr_tr k2.1 (mQr_tr (mQr_tr (mQr_pt (by omega)) mQr_pl) c1), by rw [c5, z_pl_1, z_pt_2 (by decide)]; exact k2.2.1, by rw [c6, z_pl_1, z_pt_2 (by decide)]; exact k2.2.2⟩
      have e233 : s3.1 0 23 = nI (tS L p) := by rw [c3, z_pl_1, z_pt_2 (by decide)]; exact e23
      by_cases q4 : tN L p - tS L p ≤ 4
      · have eT2 : tT L p = 2 := by rw [eT, if_pos q4]
        rw [if_pos (by rw [show (4 : Int32) = nI 4 by decide]; exact nI_le q4 (by decide)), z_stE]
        refine z_R_some ⟨⟨mQr_tr n3.1 (mQr_pt (by omega)), by rw [z_pt_2 (by decide)]; exact n3.2.1, by rw [z_pt_2 (by decide)]; exact n3.2.2⟩, ?_, fun _ => ?_, ?_⟩
        · rw [z_pt_2 (by decide)]; exact e233
        · rw [z_pt_2 (by decide)]; exact c2
        · rw [eT2, z_pt_1]
          exact ⟨fun q => absurd q (by decide), fun _ => ⟨rfl, by rw [z_pt_s]; exact c4 q4⟩, fun q => absurd q (by decide), fun q => absurd q (by decide), fun q => absurd q (by decide), fun q => absurd q (by decide), fun _ => rfl, fun q => absurd q (by decide)⟩
      · have eT1 : tT L p = 1 := by rw [eT, if_neg q4]
        rw [if_neg (by rw [show (4 : Int32) = nI 4 by decide]; exact nI_ge (by omega) (by omega)), z_stE]
        refine z_R_some ⟨⟨mQr_tr n3.1 (mQr_pt (by omega)), by rw [z_pt_2 (by decide)]; exact n3.2.1, by rw [z_pt_2 (by decide)]; exact n3.2.2⟩, ?_, fun _ => ?_, ?_⟩
        · rw [z_pt_2 (by decide)]; exact e233
        · rw [z_pt_2 (by decide)]; exact c2
        · rw [eT1, z_pt_1]
          exact ⟨fun q => absurd q (by decide), fun q => absurd q (by decide), fun q => absurd q (by decide), fun q => absurd q (by decide), fun _ => Or.inr rfl, fun q => absurd q (by decide), fun q => absurd q (by decide), fun q => absurd q (by decide)⟩)
    rw [Nat.sub_self, nI_0] at D
    exact D
  have eN : tN L p = tS L p + 1 := by unfold tN; rw [if_neg b0, if_neg b2', if_neg b1']
  rw [if_neg b2', if_pos rfl, m_sign_if]
  by_cases b3 : tSg (tB L (tS L p)) = true
  · have eT : tT L p = tB L (tS L p) := by unfold tT; rw [if_neg b0, if_neg b2', if_neg b1', if_pos b3]
    rw [if_pos b3]
    unfold fX6_next_j300
    rw [z_stE, z_stE, z_stE, z_pl_1, z_pt_2 (by decide), e21, nI_1]
    refine z_R_some ⟨⟨mQr_tr k2.1 (mQr_tr (mQr_tr (mQr_pt (by omega)) mQr_pl) (mQr_pt (by omega))), by rw [z_pt_2 (by decide), z_pl_1, z_pt_2 (by decide)]; exact k2.2.1, by rw [z_pt_2 (by decide), z_pl_1, z_pt_2 (by decide)]; exact k2.2.2⟩, ?_, fun _ => ?_, ?_⟩
    · rw [z_pt_2 (by decide), z_pl_1, z_pt_2 (by decide)]; exact e23
    · rw [z_pt_1, eN]
    · rw [z_pt_2 (by decide), z_pl_1, z_pt_1, eT]
      have hne : ∀ c : Int32, tSg c = false → ¬ tB L (tS L p) = c := fun c hc e => by rw [e, hc] at b3; exact absurd b3 (by decide)
      refine ⟨fun q => absurd q (hne 0 (by decide)), fun q => absurd q (hne 2 (by decide)), fun _ => ⟨rfl, by rw [z_pt_s, z_pl_2]⟩, fun q => ?_, fun q => absurd q (hne 1 (by decide)), fun q => absurd q (by decide), fun q => absurd q (by decide), fun q => absurd q (by decide)⟩
      rw [Int32.le_iff_toInt_le, show (256 : Int32).toInt = 256 from rfl] at q
      omega
  · have eT : tT L p = 1 := by unfold tT; rw [if_neg b0, if_neg b2', if_neg b1', if_neg b3]
    rw [if_neg b3]
    refine z_R_some ⟨k2, e23, fun q => ?_, ?_⟩
    · rcases q with q | q
      · exact absurd eT q
      · rw [e22] at q; exact absurd q (by decide)
    · rw [eT, e22]
      exact ⟨fun q => absurd q (by decide), fun q => absurd q (by decide), fun q => absurd q (by decide), fun q => absurd q (by decide), fun _ => Or.inr rfl, fun q => absurd q (by decide), fun q => absurd q (by decide), fun q => absurd q (by decide)⟩
end ZMN2
