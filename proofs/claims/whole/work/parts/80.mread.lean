section ZMS
variable {L : List Int32} {t : Nat}
theorem m_opens5 {τ : z_Mem} {p : Nat} (hk : mTk τ L p) (h25 : τ.1 0 25 = nI 5) (h26 : τ.1 0 26 = 0) : ∃ τ', fX6_textOpens τ = some (0, τ') ∧ mQr τ τ' ∧ τ'.1 0 26 = 1 ∧ τ'.1 0 27 = nI (tS L p) := by
  unfold fX6_textOpens
  obtain ⟨τ', f1, q1, q2, q3⟩ := m_fail h26 hk.1
  rw [h25, if_pos (by decide), z_bdE f1]
  exact ⟨τ', rfl, q1, q2, q3⟩
theorem m_opens (hL : tOk L) {τ : z_Mem} {p o : Nat} (hb : mBy τ L t) (hp : p ≤ L.length) (hk : mTk τ L p) (h1 : ¬ tT L p = 1) (h25 : τ.1 0 25 = nI o) (h26 : τ.1 0 26 = 0) (ho : o < 5) : ∃ τ', fX6_textOpens τ = some (1, τ') ∧ mQr τ τ' ∧ mTk τ' L (tN L p) ∧ τ'.1 0 25 = nI (o + 1) ∧ τ'.1 0 26 = 0 := by
  unfold fX6_textOpens
  rw [h25, if_neg (by rw [show (5 : Int32) = nI 5 by decide, z_eq_nI (by omega) (by omega)]; omega), z_stE, nI_1]
  obtain ⟨u, s2, f2, n2, k2⟩ := m_next hL (mBy_q hb (mQr_pt (j := 25) (v := nI (o + 1)) (by omega))) (by rw [z_pt_2 (by decide)]; exact hk.2.1 (Or.inl h1)) (tN_le hL hp)
  rw [z_bdE f2]
  exact ⟨s2, rfl, mQr_tr (mQr_pt (by omega)) n2.1, k2, by rw [n2.2.1, z_pt_1], by rw [n2.2.2, z_pt_2 (by decide)]; exact h26⟩
theorem m_name (hL : tOk L) {τ : z_Mem} {p : Nat} (hb : mBy τ L t) (hp : p ≤ L.length) (hk : mTk τ L p) (h0 : τ.1 0 26 = 0) : (256 ≤ tT L p ∧ tT L p < 262 → fX6_name τ = some (mEnv τ (z_x (tT L p - 256)), τ)) ∧ (¬ (256 ≤ tT L p ∧ tT L p < 262) → ∃ τ', fX6_name τ = some (0, τ') ∧ mQr τ τ' ∧ τ'.1 0 26 = 1 ∧ τ'.1 0 27 = nI (tS L p)) := by
  unfold fX6_name
  rw [z_bdE (m_isWord (w := 0) hL hb hp hk h0 (by omega) (by decide))]
  by_cases e0 : tT L p = nI (256 + 0)
  · rw [if_pos e0, if_neg z_10, e0]
    refine ⟨fun _ => rfl, fun q => absurd ?_ q⟩
    decide
  rw [if_neg e0, if_pos rfl]
  rw [z_bdE (m_isWord (w := 1) hL hb hp hk h0 (by omega) (by decide))]
  by_cases e1 : tT L p = nI (256 + 1)
  · rw [if_pos e1, if_neg z_10, e1]
    refine ⟨fun _ => rfl, fun q => absurd ?_ q⟩
    decide
  rw [if_neg e1, if_pos rfl]
  rw [z_bdE (m_isWord (w := 2) hL hb hp hk h0 (by omega) (by decide))]
  by_cases e2 : tT L p = nI (256 + 2)
  · rw [if_pos e2, if_neg z_10, e2]
    refine ⟨fun _ => rfl, fun q => absurd ?_ q⟩
    decide
  rw [if_neg e2, if_pos rfl]
  rw [z_bdE (m_isWord (w := 3) hL hb hp hk h0 (by omega) (by decide))]
  by_cases e3 : tT L p = nI (256 + 3)
  · rw [if_pos e3, if_neg z_10, e3]
    refine ⟨fun _ => rfl, fun q => absurd ?_ q⟩
    decide
  rw [if_neg e3, if_pos rfl]
  rw [z_bdE (m_isWord (w := 4) hL hb hp hk h0 (by omega) (by decide))]
  by_cases e4 : tT L p = nI (256 + 4)
  · rw [if_pos e4, if_neg z_10, e4]
    refine ⟨fun _ => rfl, fun q => absurd ?_ q⟩
    decide
  rw [if_neg e4, if_pos rfl]
  rw [z_bdE (m_isWord (w := 5) hL hb hp hk h0 (by omega) (by decide))]
  by_cases e5 : tT L p = nI (256 + 5)
  · rw [if_pos e5, if_neg z_10, e5]
    refine ⟨fun _ => rfl, fun q => absurd ?_ q⟩
    decide
  rw [if_neg e5, if_pos rfl]
  refine ⟨fun q => ?_, fun _ => ?_⟩
  · exfalso
    obtain ⟨k, hk2, ek⟩ := z_ofI (x := tT L p) (N := 262) (by
      have h1 := q.1
      have h2 := q.2
      rw [Int32.le_iff_toInt_le, show (256 : Int32).toInt = 256 from rfl] at h1
      rw [Int32.lt_iff_toInt_lt, show (262 : Int32).toInt = 262 from rfl] at h2
      omega)
    have hk3 : 256 ≤ k := by
      have h1 := q.1
      rw [ek, Int32.le_iff_toInt_le, nI_toInt (by omega), show (256 : Int32).toInt = 256 from rfl] at h1
      omega
    rw [ek] at e0 e1 e2 e3 e4 e5
    rcases (show k = 256 + 0 ∨ k = 256 + 1 ∨ k = 256 + 2 ∨ k = 256 + 3 ∨ k = 256 + 4 ∨ k = 256 + 5 by omega) with x | x | x | x | x | x
    · exact e0 (by rw [x])
    · exact e1 (by rw [x])
    · exact e2 (by rw [x])
    · exact e3 (by rw [x])
    · exact e4 (by rw [x])
    · exact e5 (by rw [x])
  · obtain ⟨τ', f1, q1, q2, q3⟩ := m_fail h0 hk.1
    rw [z_bdE f1]
    exact ⟨τ', rfl, q1, q2, q3⟩
theorem zGM_t (f : Nat) (σ : z_Mem) : zGM (f + 1) 0 σ = fX6_atom_b (zGM f) σ ∧ zGM (f + 1) 1 σ = fX6_term_b (zGM f) σ ∧ zGM (f + 1) 2 σ = fX6_added_b (zGM f) σ ∧ zGM (f + 1) 3 σ = fX6_not_b (zGM f) σ ∧ zGM (f + 1) 4 σ = fX6_both_b (zGM f) σ ∧ zGM (f + 1) 5 σ = fX6_either_b (zGM f) σ := by
  refine ⟨?_, ?_, ?_, ?_, ?_, ?_⟩ <;> (rw [zGM]; simp)
theorem mSp_eq {o : Nat} {Gm Gm' : z_Mem → Option (Int32 × z_Mem)} {Gp : Nat → pR} (h : mSp L t o Gm Gp) (e : ∀ σ, Gm' σ = Gm σ) : mSp L t o Gm' Gp := fun p τ a b c d r => by rw [e]; exact h p τ a b c d r
theorem m_readers (hL : tOk L) : ∀ (f tg o f' : Nat), tg ≤ 5 → o ≤ 5 → 6 * (5 - o) + (6 - tg) ≤ f → 6 * (5 - o) + (6 - tg) ≤ f' → mSp L t o (zGM f' (5 - tg)) (pG L f tg o)
  | 0, tg, o, f', ht, ho, hf, _ => by omega
  | f + 1, tg, o, f', ht, ho, hf, hf' => by
    have hl := hL.1
    obtain ⟨g, rfl⟩ : ∃ g, f' = g + 1 := ⟨f' - 1, by omega⟩
    rcases (show tg = 0 ∨ tg = 1 ∨ tg = 2 ∨ tg = 3 ∨ tg = 4 ∨ tg = 5 by omega) with rfl | rfl | rfl | rfl | rfl | rfl
    · have hG := m_readers hL f 1 o g (by omega) ho (by omega) (by omega)
      have e : pG L (f + 1) 0 o = pBin L pOr (pG L f 1 o) := by funext p; rw [pG, if_pos rfl]
      rw [e]
      exact mSp_eq (m_bin hL (ml_either hL) hG pOr_ok (by decide) (fun p hp => pG_W hL f 1 o p (by omega) ho hp)) (fun σ => (zGM_t g σ).2.2.2.2.2)
    · have hG := m_readers hL f 2 o g (by omega) ho (by omega) (by omega)
      have e : pG L (f + 1) 1 o = pBin L pAnd (pG L f 2 o) := by funext p; rw [pG, if_neg (by omega), if_pos rfl]
      rw [e]
      exact mSp_eq (m_bin hL (ml_both hL) hG pAnd_ok (by decide) (fun p hp => pG_W hL f 2 o p (by omega) ho hp)) (fun σ => (zGM_t g σ).2.2.2.2.1)
    · have e : pG L (f + 1) 2 o = pNot L (pG L f 2 (o + 1)) (pG L f 3 o) o := by funext p; rw [pG, if_neg (by omega), if_neg (by omega), if_pos rfl]
      rw [e]
      intro p τ hp hb hk h25 h26
      show z_R (zGM (g + 1) 3 τ) _
      rw [(zGM_t g τ).2.2.2.1]
      unfold fX6_not_b pNot
      rw [z_bdE (m_isWord (w := 11) hL hb hp hk h26 (by omega) (by decide)), show nI (256 + 11) = (267 : Int32) by decide]
      have hnl := tN_le hL hp
      by_cases e7 : tT L p = 267
      · simp only [if_pos e7, if_neg z_10]
        by_cases ho5 : o < 5
        · rw [if_pos ho5]
          obtain ⟨s1, f1, q1, k1, h251, h261⟩ := m_opens hL hb hp hk (by rw [e7]; decide) h25 h26 ho5
          have hG := m_readers hL f 2 (o + 1) g (by omega) (by omega) (by omega) (by omega)
          obtain ⟨v2, s2, f2, R2⟩ := hG (tN L p) s1 hnl (mBy_q hb q1) k1 h251 h261
          have f2' : zGM g 3 s1 = some (v2, s2) := f2
          rw [z_bdE f1, if_neg z_10, z_bdE f2', z_stE]
          clear f2 f2'
          generalize pG L f 2 (o + 1) (tN L p) = r at R2 ⊢
          have em : ∀ x : z_Mem, z_R (if v2 = 0 then (some ((1 : Int32), x)) else (some ((0 : Int32), x))) (fun v s => v = zop 267 v2 v2 ∧ s = x) := fun x => by
            rw [(zb01 v2 v2).2.2.2.2.2.2.2.1]
            split <;> exact z_R_some ⟨rfl, rfl⟩
          rcases r with ⟨_ | ⟨V, C⟩, p2⟩
          · obtain ⟨q2, b2, f5⟩ := R2
            refine z_R_mono (em _) (fun v s hh => ?_)
            obtain ⟨-, rfl⟩ := hh
            exact ⟨mQr_tr q1 (mQr_tr q2 (mQr_pt (by omega))), by rw [z_pt_2 (by decide)]; exact b2, by rw [z_pt_2 (by decide)]; exact f5⟩
          · obtain ⟨q2, e2, k2, h252, h262⟩ := R2
            refine z_R_mono (em _) (fun v s hh => ?_)
            obtain ⟨hv, rfl⟩ := hh
            rw [h252, nI_sub1]
            refine ⟨mQr_tr q1 (mQr_tr q2 (mQr_pt (by omega))), ?_, ?_, z_pt_1, by rw [z_pt_2 (by decide)]; exact h262⟩
            · rw [hv, e2, mEnv_q q1]
            · obtain ⟨x1, x2, x3⟩ := k2
              refine ⟨by rw [z_pt_2 (by decide)]; exact x1, fun y => by rw [z_pt_2 (by decide)]; exact x2 (by rw [z_pt_2 (by decide)] at y; exact y), ?_⟩
              rw [z_pt_2 (by decide)]
              exact x3
        · have : o = 5 := by omega
          subst this
          obtain ⟨s1, f1, q1, b1, x1⟩ := m_opens5 hk h25 h26
          rw [if_neg ho5, z_bdE f1, if_pos rfl]
          exact z_R_some ⟨q1, b1, x1⟩
      · simp only [if_neg e7, if_true]
        have hG := m_readers hL f 3 o g (by omega) ho (by omega) (by omega)
        obtain ⟨v2, s2, f2, R2⟩ := hG p τ hp hb hk h25 h26
        have f2' : zGM g 2 τ = some (v2, s2) := f2
        rw [z_bdE f2']
        have W2 := pG_W hL f 3 o p (by omega) ho hp
        clear f2 f2'
        generalize pG L f 3 o p = r at R2 W2 ⊢
        rcases r with ⟨_ | ⟨V, C⟩, p2⟩
        · obtain ⟨q2, b2, f5⟩ := R2
          rw [z_bdE (m_isSignB (z_b1 b2)), if_pos rfl, z_bdE (m_isSignB (z_b1 b2)), if_pos rfl]
          exact z_R_some ⟨q2, b2, f5⟩
        obtain ⟨q2, e2, k2, h252, h262⟩ := R2
        obtain ⟨w1, w2, w3, w4⟩ := W2
        have b2 := mBy_q hb q2
        show z_R _ (fun v τ' => mRes L o τ (if tT L p2 = 60 ∨ tT L p2 = 61 then (match pG L f 3 o (tN L p2) with
          | (none, p3) => (none, p3)
          | (some (V2, C2), p3) => (some (fun e => zop (tT L p2) (V e) (V2 e), C ++ C2 ++ [20000 + tT L p2]), p3)) else (some (V, C), p2)) v τ')
        have body : ∀ c : Int32, tT L p2 = c → (c = 60 ∨ c = 61) → z_R (fX6_not_j77 (zGM g) v2 s2) (fun v τ' => mRes L o τ (match pG L f 3 o (tN L p2) with
          | (none, p3) => (none, p3)
          | (some (V2, C2), p3) => (some (fun e => zop (tT L p2) (V e) (V2 e), C ++ C2 ++ [20000 + tT L p2]), p3)) v τ') := fun c ec hc => by
          have hsg : tSg (tT L p2) = true := by rw [ec]; rcases hc with x | x <;> (rw [x]; decide)
          have hne1 : ¬ tT L p2 = 1 := by rw [ec]; rcases hc with x | x <;> (rw [x]; decide)
          have hne0 : ¬ tT L p2 = 0 := by rw [ec]; rcases hc with x | x <;> (rw [x]; decide)
          have hw := m_worthS k2 hsg ec
          have hnl2 := tN_le hL w2
          obtain ⟨u, s3, f3, n3, k3⟩ := m_next hL b2 (k2.2.1 (Or.inl hne1)) hnl2
          obtain ⟨v4, s4, f4, R4⟩ := hG (tN L p2) s3 hnl2 (mBy_q b2 n3.1) k3 (by rw [n3.2.1]; exact h252) (by rw [n3.2.2]; exact h262)
          have f4' : zGM g 2 s3 = some (v4, s4) := f4
          have J : z_R (fX6_not_j77 (zGM g) v2 s2) (fun v s => v = zop c v2 v4 ∧ s = s4) := by
            unfold fX6_not_j77
            rw [hw, z_bdE f3, z_bdE f4']
            rcases hc with x | x
            · rw [x, if_pos (show lg_cmp (60 : Int32).toInt64 60 = 0 from lg_self), (zb01 v2 v4).2.2.2.2.2.1]
              split <;> exact z_R_some ⟨rfl, rfl⟩
            · rw [x, if_neg (show ¬ lg_cmp (61 : Int32).toInt64 60 = 0 by decide), z_bdE f3, z_bdE f4', (zb01 v2 v4).2.2.2.2.2.2.1]
              split <;> exact z_R_some ⟨rfl, rfl⟩
          refine z_R_mono J (fun v s hh => ?_)
          obtain ⟨hv, rfl⟩ := hh
          clear f4 f4' J
          generalize pG L f 3 o (tN L p2) = r at R4 ⊢
          rcases r with ⟨_ | ⟨V2, C2⟩, p3⟩
          · obtain ⟨q4, b4, f5⟩ := R4
            exact ⟨mQr_tr q2 (mQr_tr n3.1 q4), b4, f5⟩
          · obtain ⟨q4, e4, k4, h254, h264⟩ := R4
            refine ⟨mQr_tr q2 (mQr_tr n3.1 q4), ?_, k4, h254, h264⟩
            rw [hv, e4, e2, mEnv_q n3.1, mEnv_q q2, ec]
        rw [z_bdE (m_isSign k2 h262 (by decide))]
        by_cases e60 : tT L p2 = 60
        · rw [if_pos e60, if_neg z_10, if_pos (Or.inl e60)]
          exact body 60 e60 (Or.inl rfl)
        · rw [if_neg e60, if_pos rfl, z_bdE (m_isSign k2 h262 (by decide))]
          by_cases e61 : tT L p2 = 61
          · rw [if_pos e61, if_neg z_10, if_pos (Or.inr e61)]
            exact body 61 e61 (Or.inr rfl)
          · rw [if_neg e61, if_pos rfl, if_neg (fun q => q.elim e60 e61)]
            exact z_R_some ⟨q2, e2, k2, h252, h262⟩
    · have hG := m_readers hL f 4 o g (by omega) ho (by omega) (by omega)
      have e : pG L (f + 1) 3 o = pBin L pAdd (pG L f 4 o) := by funext p; rw [pG, if_neg (by omega), if_neg (by omega), if_neg (by omega), if_pos rfl]
      rw [e]
      exact mSp_eq (m_bin hL ml_added hG pAdd_ok (by decide) (fun p hp => pG_W hL f 4 o p (by omega) ho hp)) (fun σ => (zGM_t g σ).2.2.1)
    · have hG := m_readers hL f 5 o g (by omega) ho (by omega) (by omega)
      have e : pG L (f + 1) 4 o = pBin L pMul (pG L f 5 o) := by funext p; rw [pG, if_neg (by omega), if_neg (by omega), if_neg (by omega), if_neg (by omega), if_pos rfl]
      rw [e]
      exact mSp_eq (m_bin hL ml_term hG pMul_ok (by decide) (fun p hp => pG_W hL f 5 o p (by omega) ho hp)) (fun σ => (zGM_t g σ).2.1)
    · have e : pG L (f + 1) 5 o = pOne L (pG L f 5 (o + 1)) (pG L f 0 (o + 1)) o := by funext p; rw [pG, if_neg (by omega), if_neg (by omega), if_neg (by omega), if_neg (by omega), if_neg (by omega)]
      rw [e]
      intro p τ hp hb hk h25 h26
      show z_R (zGM (g + 1) 0 τ) _
      rw [(zGM_t g τ).1]
      have hnl := tN_le hL hp
      unfold fX6_atom_b pOne
      have open_ : ∀ (s : z_Mem) (tp : Nat), mTk s L tp → mTk (z_pt s 0 25 (s.1 0 25 - 1)) L tp := fun s tp k2 => by
        obtain ⟨x1, x2, x3⟩ := k2
        refine ⟨by rw [z_pt_2 (by decide)]; exact x1, fun y => by rw [z_pt_2 (by decide)]; exact x2 (by rw [z_pt_2 (by decide)] at y; exact y), ?_⟩
        rw [z_pt_2 (by decide)]
        exact x3
      rw [z_bdE (m_isSign hk h26 (by decide))]
      by_cases e45 : tT L p = 45
      · rw [if_pos e45, if_neg z_10, if_neg (show ¬ tT L p = 2 by rw [e45]; decide), if_neg (show ¬ (256 ≤ tT L p ∧ tT L p < 262) by rw [e45]; decide)]
        by_cases ho5 : 5 ≤ o
        · have : o = 5 := by omega
          subst this
          obtain ⟨s1, f1, q1, b1, x1⟩ := m_opens5 hk h25 h26
          rw [if_pos ho5, z_bdE f1, if_pos rfl]
          exact z_R_some ⟨q1, b1, x1⟩
        rw [if_neg ho5, if_pos e45]
        obtain ⟨s1, f1, q1, k1, h251, h261⟩ := m_opens hL hb hp hk (by rw [e45]; decide) h25 h26 (by omega)
        have hG := m_readers hL f 5 (o + 1) g (by omega) (by omega) (by omega) (by omega)
        obtain ⟨v2, s2, f2, R2⟩ := hG (tN L p) s1 hnl (mBy_q hb q1) k1 h251 h261
        have f2' : zGM g 0 s1 = some (v2, s2) := f2
        rw [z_bdE f1, if_neg z_10, z_bdE f2', z_stE]
        clear f2 f2'
        generalize pG L f 5 (o + 1) (tN L p) = r at R2 ⊢
        rcases r with ⟨_ | ⟨V, C⟩, p2⟩
        · obtain ⟨q2, b2, f5⟩ := R2
          exact z_R_some ⟨mQr_tr q1 (mQr_tr q2 (mQr_pt (by omega))), by rw [z_pt_2 (by decide)]; exact b2, by rw [z_pt_2 (by decide)]; exact f5⟩
        · obtain ⟨q2, e2, k2, h252, h262⟩ := R2
          refine z_R_some ⟨mQr_tr q1 (mQr_tr q2 (mQr_pt (by omega))), ?_, open_ _ _ k2, by rw [z_pt_1, h252, nI_sub1], by rw [z_pt_2 (by decide)]; exact h262⟩
          show -v2 = zop 3 (V (mEnv τ)) (V (mEnv τ))
          rw [(zb01 _ _).2.2.2.2.2.2.2.2, e2, mEnv_q q1]
      rw [if_neg e45, if_pos rfl, z_bdE (m_isSign hk h26 (by decide))]
      by_cases e40 : tT L p = 40
      · rw [if_pos e40, if_neg z_10, if_neg (show ¬ tT L p = 2 by rw [e40]; decide), if_neg (show ¬ (256 ≤ tT L p ∧ tT L p < 262) by rw [e40]; decide)]
        by_cases ho5 : 5 ≤ o
        · have : o = 5 := by omega
          subst this
          obtain ⟨s1, f1, q1, b1, x1⟩ := m_opens5 hk h25 h26
          rw [if_pos ho5, z_bdE f1, if_pos rfl]
          exact z_R_some ⟨q1, b1, x1⟩
        rw [if_neg ho5, if_neg e45, if_pos e40]
        obtain ⟨s1, f1, q1, k1, h251, h261⟩ := m_opens hL hb hp hk (by rw [e40]; decide) h25 h26 (by omega)
        have hG := m_readers hL f 0 (o + 1) g (by omega) (by omega) (by omega) (by omega)
        obtain ⟨v2, s2, f2, R2⟩ := hG (tN L p) s1 hnl (mBy_q hb q1) k1 h251 h261
        have f2' : zGM g 5 s1 = some (v2, s2) := f2
        rw [z_bdE f1, if_neg z_10, z_bdE f2']
        have W2 := pG_W hL f 0 (o + 1) (tN L p) (by omega) (by omega) hnl
        clear f2 f2'
        generalize pG L f 0 (o + 1) (tN L p) = r at R2 W2 ⊢
        rcases r with ⟨_ | ⟨V, C⟩, p2⟩
        · obtain ⟨q2, b2, f5⟩ := R2
          rw [z_bdE (m_isSignB (z_b1 b2)), if_pos rfl, z_bdE (m_failB (z_b1 b2)), z_stE, if_neg (by rw [z_pt_2 (by decide)]; exact z_b1 b2)]
          exact z_R_some ⟨mQr_tr q1 (mQr_tr q2 (mQr_pt (by omega))), by rw [z_pt_2 (by decide)]; exact b2, by rw [z_pt_2 (by decide)]; exact f5⟩
        · obtain ⟨q2, e2, k2, h252, h262⟩ := R2
          obtain ⟨w1, w2, w3, w4⟩ := W2
          rw [z_bdE (m_isSign k2 h262 (by decide))]
          show z_R _ (fun v τ' => mRes L o τ (if tT L p2 = 41 then (some (V, C), tN L p2) else (none, p2)) v τ')
          by_cases e41 : tT L p2 = 41
          · rw [if_pos e41, if_neg z_10, z_stE, if_pos (by rw [z_pt_2 (by decide)]; exact h262)]
            obtain ⟨u, s3, f3, n3, k3⟩ := m_next hL (mBy_q (mBy_q (mBy_q hb q1) q2) (mQr_pt (j := 25) (v := s2.1 0 25 - 1) (by omega))) (by rw [z_pt_2 (by decide)]; exact k2.2.1 (Or.inl (by rw [e41]; decide))) (tN_le hL w2)
            rw [z_bdE f3, if_pos e41]
            refine z_R_some ⟨mQr_tr q1 (mQr_tr q2 (mQr_tr (mQr_pt (by omega)) n3.1)), ?_, k3, by rw [n3.2.1, z_pt_1, h252, nI_sub1], by rw [n3.2.2, z_pt_2 (by decide)]; exact h262⟩
            rw [e2, mEnv_q q1]
          · obtain ⟨s3, f3, q3, b3, x3⟩ := m_fail h262 k2.1
            rw [if_neg e41, if_pos rfl, z_bdE f3, z_stE, if_neg (by rw [z_pt_2 (by decide)]; exact z_b1 b3), if_neg e41]
            exact z_R_some ⟨mQr_tr q1 (mQr_tr q2 (mQr_tr q3 (mQr_pt (by omega)))), by rw [z_pt_2 (by decide)]; exact b3, by rw [z_pt_2 (by decide)]; exact x3⟩
      rw [if_neg e40, if_pos rfl, if_pos h26]
      by_cases e2 : tT L p = 2
      · obtain ⟨k2, kv⟩ := hk.2.2.2.1 e2
        obtain ⟨u, s3, f3, n3, k3⟩ := m_next hL hb (hk.2.1 (Or.inl (by rw [e2]; decide))) hnl
        rw [if_pos k2, z_bdE f3, if_pos e2]
        exact z_R_some ⟨n3.1, kv, k3, by rw [n3.2.1]; exact h25, by rw [n3.2.2]; exact h26⟩
      rw [if_neg (fun q => e2 (hk.2.2.2.2.2.2.2.2.1 q)), if_neg e2]
      unfold fX6_atom_j123
      rw [if_pos h26]
      obtain ⟨nm1, nm2⟩ := m_name hL hb hp hk h26
      by_cases e3 : 256 ≤ tT L p ∧ tT L p < 262
      · have f1 := nm1 e3
        obtain ⟨u, s3, f3, n3, k3⟩ := m_next hL hb (hk.2.1 (Or.inl (fun q => by rw [q] at e3; exact absurd e3.1 (by decide)))) hnl
        rw [if_pos (hk.2.2.2.2.2.1 e3.1), z_bdE f1, if_pos h26, z_bdE f3, if_pos e3]
        exact z_R_some ⟨n3.1, rfl, k3, by rw [n3.2.1]; exact h25, by rw [n3.2.2]; exact h26⟩
      rw [if_neg e3]
      have eP : (if 5 ≤ o then ((none, p) : pR) else if tT L p = 45 then (match pG L f 5 (o + 1) (tN L p) with
        | (none, p2) => (none, p2)
        | (some (V, C), p2) => (some (fun e => zop 3 (V e) (V e), C ++ [20003]), p2))
        else if tT L p = 40 then (match pG L f 0 (o + 1) (tN L p) with
        | (none, p2) => (none, p2)
        | (some (V, C), p2) => if tT L p2 = 41 then (some (V, C), tN L p2) else (none, p2))
        else (none, p)) = (none, p) := by
        rw [if_neg e45, if_neg e40, ite_self]
      by_cases k1 : τ.1 0 22 = 1
      · obtain ⟨s1, f1, q1, b1, x1⟩ := nm2 e3
        rw [if_pos k1, z_bdE f1, if_neg (z_b1 b1), if_neg e45, if_neg e40, ite_self]
        exact z_R_some ⟨q1, b1, x1⟩
      · obtain ⟨s1, f1, q1, b1, x1⟩ := m_fail h26 hk.1
        rw [if_neg k1, z_bdE f1, if_neg e45, if_neg e40, ite_self]
        exact z_R_some ⟨q1, b1, x1⟩
end ZMS
