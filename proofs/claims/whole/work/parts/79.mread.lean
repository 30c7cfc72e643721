/-! the reference's readers follow the pure parser -/
def mEnv (τ : z_Mem) : Nat → Int32 := fun q => τ.1 0 (13 + zSix q)
theorem mEnv_q {τ τ' : z_Mem} (h : mQr τ τ') : mEnv τ' = mEnv τ := by
  funext q
  unfold mEnv zSix
  exact h.2 _ (Or.inl (by split <;> omega))
def mRes (L : List Int32) (o : Nat) (τ : z_Mem) (r : pR) (v : Int32) (τ' : z_Mem) : Prop := mQr τ τ' ∧ match r with
  | (none, p') => τ'.1 0 26 = 1 ∧ τ'.1 0 27 = nI (tS L p')
  | (some (V, _), p') => v = V (mEnv τ) ∧ mTk τ' L p' ∧ τ'.1 0 25 = nI o ∧ τ'.1 0 26 = 0
def mSp (L : List Int32) (t o : Nat) (Gm : z_Mem → Option (Int32 × z_Mem)) (Gp : Nat → pR) : Prop := ∀ (p : Nat) (τ : z_Mem), p ≤ L.length → mBy τ L t → mTk τ L p → τ.1 0 25 = nI o → τ.1 0 26 = 0 → z_R (Gm τ) (fun v τ' => mRes L o τ (Gp p) v τ')
theorem m_fail {τ : z_Mem} {s : Nat} (h0 : τ.1 0 26 = 0) (h : τ.1 0 23 = nI s) : ∃ τ', fX6_fail τ = some ((), τ') ∧ mQr τ τ' ∧ τ'.1 0 26 = 1 ∧ τ'.1 0 27 = nI s := by
  unfold fX6_fail
  rw [if_pos h0, z_stE, z_stE, z_pt_2 (by decide), h]
  exact ⟨_, rfl, mQr_tr (mQr_pt (by omega)) (mQr_pt (by omega)), by rw [z_pt_2 (by decide), z_pt_1], z_pt_1⟩
theorem m_failB {τ : z_Mem} (h0 : ¬ τ.1 0 26 = 0) : fX6_fail τ = some ((), τ) := by
  unfold fX6_fail
  rw [if_neg h0]
theorem z_b1 {τ : z_Mem} (h : τ.1 0 26 = 1) : ¬ τ.1 0 26 = 0 := by rw [h]; decide
section ZMR
variable {L : List Int32} {t : Nat}
/-- the loops over one kind of operators -/
def mLp (L : List Int32) (t : Nat) (isOp : Int32 → Bool) (Gm : z_Mem → Option (Int32 × z_Mem)) (F : Nat → Int32 → z_Mem → Option (Int32 × z_Mem)) : Prop := (∀ q l (τ : z_Mem), ¬ τ.1 0 26 = 0 → F (q + 1) l τ = some (l, τ)) ∧ ∀ q l (τ : z_Mem) p, p ≤ L.length → mBy τ L t → mTk τ L p → τ.1 0 26 = 0 → F (q + 1) l τ = if isOp (tT L p) = true then z_bd (fX6_next τ) (fun _ s3 => z_bd (Gm s3) (fun r4 s4 => F q (zop (tT L p) l r4) s4)) else some (l, τ)
theorem m_binloop (hL : tOk L) {o d : Nat} {isOp : Int32 → Bool} {Gm : z_Mem → Option (Int32 × z_Mem)} {Gp : Nat → pR} {F : Nat → Int32 → z_Mem → Option (Int32 × z_Mem)} (hF : mLp L t isOp Gm F) (hG : mSp L t o Gm Gp) (hO : pOpOk isOp) (hO1 : isOp 1 = false) (hW : ∀ p, p ≤ L.length → pW L d p (Gp p)) : ∀ (qp q k : Nat) (V : pV) (C : List Int32) (p : Nat) (τ : z_Mem), p ≤ L.length → mBy τ L t → mTk τ L p → τ.1 0 25 = nI o → τ.1 0 26 = 0 → k + qp = 161 → k ≤ p → qp < q → z_R (F q (V (mEnv τ)) τ) (fun v τ' => mRes L o τ (pLoop L isOp Gp qp V C p) v τ')
  | qp, 0, k, V, C, p, τ, _, _, _, _, _, _, _, h => absurd h (Nat.not_lt_zero _)
  | 0, q + 1, k, V, C, p, τ, hp, _, _, _, _, hk, hkp, _ => by
    have := hL.1
    omega
  | qp + 1, q + 1, k, V, C, p, τ, hp, hb, hk, h25, h26, hkq, hkp, hq => by
    rw [hF.2 q _ τ p hp hb hk h26, pLoop]
    by_cases e : isOp (tT L p) = true
    · have hne := pOp_ne hO e
      have hn := tN_gt hne
      have hnl := tN_le hL hp
      have hne1 : ¬ tT L p = 1 := fun q => by rw [q, hO1] at e; exact absurd e (by decide)
      rw [if_pos e, if_pos e]
      obtain ⟨u, s2, f2, n2, k2⟩ := m_next hL hb (hk.2.1 (Or.inl hne1)) hnl
      have b2 := mBy_q hb n2.1
      obtain ⟨v3, s3, f3, R3⟩ := hG (tN L p) s2 hnl b2 k2 (by rw [n2.2.1]; exact h25) (by rw [n2.2.2]; exact h26)
      rw [z_bdE f2, z_bdE f3]
      have W := hW (tN L p) hnl
      match hR : Gp (tN L p), R3, W with
      | (none, p2), ⟨q3, b3, f5⟩, W =>
        match q, hq with
        | q + 1, hq =>
          rw [hF.1 q _ s3 (z_b1 b3)]
          exact z_R_some ⟨mQr_tr n2.1 q3, b3, f5⟩
      | (some (V2, C2), p2), ⟨q3, e3, k3, h253, h263⟩, ⟨w1, w2, w3, w4⟩ =>
        have Q := mQr_tr n2.1 q3
        have ee : mEnv s3 = mEnv τ := mEnv_q Q
        have ee2 : mEnv s2 = mEnv τ := mEnv_q n2.1
        rw [e3, ee2, ← ee]
        have IH := m_binloop hL hF hG hO hO1 hW qp q (k + 1) (fun e => zop (tT L p) (V e) (V2 e)) (C ++ C2 ++ [20000 + tT L p]) p2 s3 w2 (mBy_q hb Q) k3 h253 h263 (by omega) (by omega) (by omega)
        refine z_R_mono IH (fun v τ' hh => ?_)
        show mRes L o τ (pLoop L isOp Gp qp (fun e => zop (tT L p) (V e) (V2 e)) (C ++ C2 ++ [20000 + tT L p]) p2) v τ'
        generalize pLoop L isOp Gp qp (fun e => zop (tT L p) (V e) (V2 e)) (C ++ C2 ++ [20000 + tT L p]) p2 = r at hh ⊢
        rcases r with ⟨_ | ⟨V5, C5⟩, p5⟩
        · exact ⟨mQr_tr Q hh.1, hh.2⟩
        · refine ⟨mQr_tr Q hh.1, ?_, hh.2.2⟩
          rw [← ee]; exact hh.2.1
    · rw [if_neg e, if_neg e]
      exact z_R_some ⟨mQr_rf, rfl, hk, h25, h26⟩
theorem m_bin (hL : tOk L) {o d : Nat} {isOp : Int32 → Bool} {Gm : z_Mem → Option (Int32 × z_Mem)} {Gp : Nat → pR} {F : Nat → Int32 → z_Mem → Option (Int32 × z_Mem)} (hF : mLp L t isOp Gm F) (hG : mSp L t o Gm Gp) (hO : pOpOk isOp) (hO1 : isOp 1 = false) (hW : ∀ p, p ≤ L.length → pW L d p (Gp p)) : mSp L t o (fun σ => z_bd (Gm σ) (fun r1 s1 => F z_FU r1 s1)) (pBin L isOp Gp) := by
  intro p τ hp hb hk h25 h26
  show z_R (z_bd (Gm τ) (fun r1 s1 => F z_FU r1 s1)) _
  obtain ⟨v1, s1, f1, R1⟩ := hG p τ hp hb hk h25 h26
  have W := hW p hp
  rw [z_bdE f1]
  unfold pBin
  match hR : Gp p, R1, W with
  | (none, p2), ⟨q1, b1, f5⟩, W =>
    rw [show z_FU = 999 + 1 from rfl, hF.1 _ _ s1 (z_b1 b1)]
    exact z_R_some ⟨q1, b1, f5⟩
  | (some (V, C), p2), ⟨q1, e1, k1, h251, h261⟩, ⟨w1, w2, w3, w4⟩ =>
    have ee : mEnv s1 = mEnv τ := mEnv_q q1
    rw [e1, ← ee]
    have IH := m_binloop hL hF hG hO hO1 hW 161 z_FU 0 V C p2 s1 w2 (mBy_q hb q1) k1 h251 h261 (by omega) (by omega) (by decide)
    refine z_R_mono IH (fun v τ' hh => ?_)
    show mRes L o τ (pLoop L isOp Gp 161 V C p2) v τ'
    generalize pLoop L isOp Gp 161 V C p2 = r at hh ⊢
    rcases r with ⟨_ | ⟨V5, C5⟩, p5⟩
    · exact ⟨mQr_tr q1 hh.1, hh.2⟩
    · refine ⟨mQr_tr q1 hh.1, ?_, hh.2.2⟩
      rw [← ee]; exact hh.2.1
theorem zb01 (a b : Int32) : zop 265 a b = (if a = 0 then (if b = 0 then 0 else 1) else 1) ∧ zop 266 a b = (if a = 0 then 0 else (if b = 0 then 0 else 1)) ∧ zop 42 a b = a * b ∧ zop 43 a b = a + b ∧ zop 45 a b = a - b ∧ zop 60 a b = (if b ≤ a then 0 else 1) ∧ zop 61 a b = (if a = b then 1 else 0) ∧ zop 267 a b = (if a = 0 then 1 else 0) ∧ zop 3 a b = -a := ⟨rfl, rfl, rfl, rfl, rfl, rfl, rfl, rfl, rfl⟩
theorem ml_term {G : Nat → z_Mem → Option (Int32 × z_Mem)} : mLp L t pMul (G 0) (fun q l τ => fX6_term_5 G q l τ) := by
  refine ⟨fun q l τ h => ?_, fun q l τ p hp hb hk h0 => ?_⟩
  · show fX6_term_5 G (q + 1) l τ = _
    rw [fX6_term_5, z_bdE (m_isSignB h), if_pos rfl]
  · show fX6_term_5 G (q + 1) l τ = _
    rw [fX6_term_5, z_bdE (m_isSign hk h0 (by decide))]
    by_cases e : tT L p = 42
    · rw [if_pos e, if_neg z_10, if_pos (show pMul (tT L p) = true by rw [e]; decide), e]
      simp only [(zb01 _ _).2.2.1]
    · rw [if_neg e, if_pos rfl, if_neg (show ¬ pMul (tT L p) = true by unfold pMul; simpa using e)]
theorem ml_both (hL : tOk L) {G : Nat → z_Mem → Option (Int32 × z_Mem)} : mLp L t pAnd (G 3) (fun q l τ => fX6_both_5 G q l τ) := by
  refine ⟨fun q l τ h => ?_, fun q l τ p hp hb hk h0 => ?_⟩
  · show fX6_both_5 G (q + 1) l τ = _
    rw [fX6_both_5, z_bdE (m_isWordB h), if_pos rfl]
  · show fX6_both_5 G (q + 1) l τ = _
    rw [fX6_both_5, z_bdE (m_isWord (w := 10) hL hb hp hk h0 (by omega) (by decide))]
    by_cases e : tT L p = nI (256 + 10)
    · rw [if_pos e, if_neg z_10, if_pos (show pAnd (tT L p) = true by rw [e]; decide), e, show nI (256 + 10) = (266 : Int32) by decide]
      simp only [(zb01 _ _).2.1]
      congr 1
      funext _ s3
      congr 1
      funext r4 s4
      by_cases l0 : l = 0
      · rw [if_pos l0, if_pos l0]
      · rw [if_neg l0, if_neg l0]
        split <;> rfl
    · rw [if_neg e, if_pos rfl, if_neg (show ¬ pAnd (tT L p) = true by unfold pAnd; simp; intro q; exact e (by rw [q]; decide))]
theorem ml_either (hL : tOk L) {G : Nat → z_Mem → Option (Int32 × z_Mem)} : mLp L t pOr (G 4) (fun q l τ => fX6_either_5 G q l τ) := by
  refine ⟨fun q l τ h => ?_, fun q l τ p hp hb hk h0 => ?_⟩
  · show fX6_either_5 G (q + 1) l τ = _
    rw [fX6_either_5, z_bdE (m_isWordB h), if_pos rfl]
  · show fX6_either_5 G (q + 1) l τ = _
    rw [fX6_either_5, z_bdE (m_isWord (w := 9) hL hb hp hk h0 (by omega) (by decide))]
    by_cases e : tT L p = nI (256 + 9)
    · rw [if_pos e, if_neg z_10, if_pos (show pOr (tT L p) = true by rw [e]; decide), e, show nI (256 + 9) = (265 : Int32) by decide]
      simp only [(zb01 _ _).1]
      congr 1
      funext _ s3
      congr 1
      funext r4 s4
      by_cases l0 : l = 0
      · rw [if_pos l0, if_pos l0]
        split <;> rfl
      · rw [if_neg l0, if_neg l0]
    · rw [if_neg e, if_pos rfl, if_neg (show ¬ pOr (tT L p) = true by unfold pOr; simp; intro q; exact e (by rw [q]; decide))]
theorem m_worthS {τ : z_Mem} {p : Nat} {s : Int32} (h : mTk τ L p) (hs : tSg (tT L p) = true) (e : tT L p = s) : τ.2 0 24 = s.toInt64 := by rw [← e]; exact (h.2.2.2.2.1 hs).2
theorem lg_self {x : Int64} : lg_cmp x x = 0 := by
  have h1 : ¬ lg_cmp x x < 0 := by rw [lgc_lt]; omega
  have h2 : ¬ 0 < lg_cmp x x := by rw [lgc_gt]; omega
  exact Int32.le_antisymm (Int32.not_lt.mp h2) (Int32.not_lt.mp h1)
theorem ml_added {G : Nat → z_Mem → Option (Int32 × z_Mem)} : mLp L t pAdd (G 1) (fun q l τ => fX6_added_5 G q l τ) := by
  refine ⟨fun q l τ h => ?_, fun q l τ p hp hb hk h0 => ?_⟩
  · show fX6_added_5 G (q + 1) l τ = _
    rw [fX6_added_5, z_bdE (m_isSignB h), if_pos rfl, z_bdE (m_isSignB h), if_pos rfl]
  · show fX6_added_5 G (q + 1) l τ = _
    rw [fX6_added_5, z_bdE (m_isSign hk h0 (by decide))]
    by_cases e : tT L p = 43
    · have hw := m_worthS hk (by rw [e]; decide) e
      rw [if_pos e, if_neg z_10, if_pos (show pAdd (tT L p) = true by rw [e]; decide), hw, if_pos (show lg_cmp (43 : Int32).toInt64 43 = 0 from lg_self), e]
      simp only [(zb01 _ _).2.2.2.1]
    · rw [if_neg e, if_pos rfl, z_bdE (m_isSign hk h0 (by decide))]
      by_cases e2 : tT L p = 45
      · have hw := m_worthS hk (by rw [e2]; decide) e2
        rw [if_pos e2, if_neg z_10, if_pos (show pAdd (tT L p) = true by rw [e2]; decide), hw, if_neg (show ¬ lg_cmp (45 : Int32).toInt64 43 = 0 by decide), e2]
        simp only [(zb01 _ _).2.2.2.2.1]
      · rw [if_neg e2, if_pos rfl, if_neg (show ¬ pAdd (tT L p) = true by unfold pAdd; simp [e, e2])]
end ZMR
