section ZMW
variable {L : List Int32} {t : Nat}
theorem m_isSign {τ : z_Mem} {p : Nat} {s : Int32} (h : mTk τ L p) (h0 : τ.1 0 26 = 0) (hs : tSg s = true) : fX6_isSign s τ = some (if tT L p = s then 1 else 0, τ) := by
  obtain ⟨-, -, k0, k2, k3, k4, k5, -⟩ := h
  unfold fX6_isSign
  rw [if_pos h0]
  by_cases e : τ.1 0 22 = 3
  · rw [if_pos e]
    by_cases es : tT L p = s
    · have := (k3 (by rw [es]; exact hs)).2
      rw [this, es, if_pos rfl, if_pos]
      have h1 : ¬ lg_cmp s.toInt64 s.toInt64 < 0 := by rw [lgc_lt]; omega
      have h2 : ¬ 0 < lg_cmp s.toInt64 s.toInt64 := by rw [lgc_gt]; omega
      exact Int32.le_antisymm (Int32.not_lt.mp h2) (Int32.not_lt.mp h1)
    · rw [if_neg es]
      have hc : tSg (tT L p) = true := by
        apply Classical.byContradiction
        intro q
        have : tT L p = 0 ∨ tT L p = 1 ∨ tT L p = 2 ∨ 256 ≤ tT L p := by
          unfold tT
          split
          · exact Or.inl rfl
          · split
            · split
              · exact Or.inr (Or.inr (Or.inl rfl))
              · exact Or.inr (Or.inl rfl)
            · split
              · rcases tWord_in (tSl L (tS L p) (tN L p)) with e1 | ⟨k, hk, -, e1⟩
                · exact Or.inr (Or.inl e1)
                · refine Or.inr (Or.inr (Or.inr ?_))
                  rw [e1, show (256 : Int32) = nI 256 by decide]
                  exact nI_le (by omega) (by omega)
              · split
                · rename_i b0 b1 b2 b3
                  exfalso
                  apply q
                  unfold tT
                  rw [if_neg b0, if_neg b1, if_neg b2, if_pos b3]
                  exact b3
                · exact Or.inr (Or.inl rfl)
        rcases this with x | x | x | x
        · rw [k0 x] at e; exact absurd e (by decide)
        · rcases k5 x with y | y
          · rw [y] at e; exact absurd e (by decide)
          · rw [y] at e; exact absurd e (by decide)
        · rw [(k2 x).1] at e; exact absurd e (by decide)
        · rw [k4 x] at e; exact absurd e (by decide)
      have := (k3 hc).2
      rw [this, if_neg]
      intro q
      apply es
      have h1 : ¬ lg_cmp (tT L p).toInt64 s.toInt64 < 0 := by rw [q]; decide
      have h2 : ¬ 0 < lg_cmp (tT L p).toInt64 s.toInt64 := by rw [q]; decide
      rw [lgc_lt, i64, i64] at h1
      rw [lgc_gt, i64, i64] at h2
      exact Int32.toInt_inj.mp (by omega)
  · rw [if_neg e, if_neg (fun q => e (k3 (by rw [q]; exact hs)).1)]
theorem m_isSignB {τ : z_Mem} {s : Int32} (h0 : ¬ τ.1 0 26 = 0) : fX6_isSign s τ = some (0, τ) := by
  unfold fX6_isSign
  rw [if_neg h0]
theorem m_isWordB {τ : z_Mem} {a b c d e f g h : Int32} (h0 : ¬ τ.1 0 26 = 0) : fX6_isWord a b c d e f g h τ = some (0, τ) := by
  unfold fX6_isWord
  rw [if_neg h0]
theorem m_isLetter {τ : z_Mem} {p i : Nat} {x : Int32} (hL : tOk L) (hb : mBy τ L t) (hp : p ≤ L.length) (h23 : τ.1 0 23 = nI (tS L p)) (h21 : τ.1 0 21 = nI (tN L p)) (hi : i < 8) : fX6_isLetter (nI i) x τ = some (if (tSl L (tS L p) (tN L p)).getD i 0 = x then 1 else 0, τ) := by
  have hl := hL.1
  have hn := tN_le hL hp
  have hge := tN_ge (L := L) (p := p)
  unfold fX6_isLetter
  rw [h21, h23, nI_add]
  by_cases e : tN L p ≤ tS L p + i
  · have eg : (tSl L (tS L p) (tN L p)).getD i 0 = 0 := by
      rw [List.getD_eq_getElem?_getD, List.getElem?_eq_none (by rw [tSl_len hn]; omega)]
      rfl
    rw [if_pos (nI_le e (by omega)), eg]
    by_cases q : x = 0
    · rw [if_pos q, if_pos q.symm]
    · rw [if_neg q, if_neg (fun y => q y.symm)]
  · rw [if_neg (nI_ge (by omega) (by omega)), z_bdE (m_byteAt hb hl (by omega)), tSl_get (by omega) hn]
    split <;> rfl
theorem z_wordEq {l W : List Int32} (hl : ∀ b ∈ l, ¬ b = 0) (hW : ∀ b ∈ W, ¬ b = 0) (h8 : W.length ≤ 8) (h : l.length ≤ 8) (he : ∀ i, i < 8 → l.getD i 0 = W.getD i 0) : l = W := by
  have hn : ∀ (m : List Int32) i, (∀ b ∈ m, ¬ b = 0) → i < m.length → ¬ m.getD i 0 = 0 := fun m i hm hi => by
    rw [List.getD_eq_getElem?_getD, List.getElem?_eq_getElem hi]
    exact hm _ (List.getElem_mem hi)
  have hz : ∀ (m : List Int32) i, m.length ≤ i → m.getD i 0 = 0 := fun m i hi => by
    rw [List.getD_eq_getElem?_getD, List.getElem?_eq_none hi]
    rfl
  have hlen : l.length = W.length := by
    rcases Nat.lt_trichotomy l.length W.length with q | q | q
    · exfalso
      exact hn W l.length hW q (by rw [← he _ (by omega)]; exact hz l _ (Nat.le_refl _))
    · exact q
    · exfalso
      exact hn l W.length hl q (by rw [he _ (by omega)]; exact hz W _ (Nat.le_refl _))
  apply List.ext_getElem hlen
  intro i h1 h2
  have := he i (by omega)
  rw [List.getD_eq_getElem?_getD, List.getElem?_eq_getElem h1, List.getD_eq_getElem?_getD, List.getElem?_eq_getElem h2] at this
  exact this
theorem tWord_iff {l : List Int32} {w : Nat} (hw : w < 12) : tWord l = nI (256 + w) ↔ l = z_byt.getD (w + 1) [] := by
  constructor
  · intro e
    rcases tWord_in l with e1 | ⟨k, hk, e2, e3⟩
    · rw [e1, show (1 : Int32) = nI 1 by decide, z_eq_nI (by omega) (by omega)] at e
      omega
    · rw [e3, z_eq_nI (by omega) (by omega)] at e
      have : k = w := by omega
      rw [← this]; exact e2
  · intro e
    rw [e]
    exact z_words w hw
theorem z_wordN : ∀ w, w < 12 → (∀ b ∈ z_byt.getD (w + 1) [], ¬ b = 0) ∧ (z_byt.getD (w + 1) []).length ≤ 8 := by decide
theorem m_isWord {τ : z_Mem} {p w : Nat} {x0 x1 x2 x3 x4 x5 x6 x7 : Int32} (hL : tOk L) (hb : mBy τ L t) (hp : p ≤ L.length) (h : mTk τ L p) (h0 : τ.1 0 26 = 0) (hw : w < 12) (hx : [x0, x1, x2, x3, x4, x5, x6, x7] = (z_byt.getD (w + 1) []) ++ List.replicate (8 - (z_byt.getD (w + 1) []).length) 0) : fX6_isWord x0 x1 x2 x3 x4 x5 x6 x7 τ = some (if tT L p = nI (256 + w) then 1 else 0, τ) := by
  have hl := hL.1
  have hn := tN_le hL hp
  have hge := tN_ge (L := L) (p := p)
  obtain ⟨h23, h21', k0, k2, k3, k4, k5, k6, -⟩ := h
  unfold fX6_isWord
  rw [if_pos h0]
  by_cases e : τ.1 0 22 = 1
  rotate_left
  · rw [if_neg e, if_neg (fun q => e (k4 (by rw [q, show (256 : Int32) = nI 256 by decide]; exact nI_le (by omega) (by omega))))]
  rw [if_pos e]
  have hsm := k6 e
  have h21 := h21' (Or.inr e)
  have b0 : ¬ tB L (tS L p) = -1 := fun q => by rw [q] at hsm; exact absurd hsm (by decide)
  have nd : ¬ tDg (tB L (tS L p)) = true := fun q => by
    have h1 := tDg_in q
    have h2 := tSm_in hsm
    omega
  have eN : tN L p = tRun L tSm (L.length + 1) (tS L p) := by unfold tN; rw [if_neg b0, if_neg nd, if_pos hsm]
  have eT : tT L p = tWord (tSl L (tS L p) (tN L p)) := by unfold tT; rw [if_neg b0, if_neg nd, if_pos hsm]
  have hnz : ∀ b ∈ tSl L (tS L p) (tN L p), ¬ b = 0 := fun b hbm hz => by
    obtain ⟨i, hi, e1⟩ := List.getElem_of_mem hbm
    have hi' : i < tN L p - tS L p := by rw [← tSl_len hn]; exact hi
    have e2 := tSl_get (L := L) (s := tS L p) (e := tN L p) hi' hn
    rw [List.getD_eq_getElem?_getD, List.getElem?_eq_getElem hi] at e2
    have e3 : b = tB L (tS L p + i) := by rw [← e1]; exact e2
    have := tRun_in (L := L) (P := tSm) (L.length + 1) (tS L p) (tS L p + i) (by omega) (by rw [← eN]; omega)
    rw [← e3, hz] at this
    exact absurd this (by decide)
  obtain ⟨hWn, hW8⟩ := z_wordN w hw
  generalize hW : z_byt.getD (w + 1) [] = W at hx hWn hW8
  have hxi : ∀ i, i < 8 → [x0, x1, x2, x3, x4, x5, x6, x7].getD i 0 = W.getD i 0 := fun i hi => by
    rw [hx, z_gdA]
    by_cases q : i < W.length
    · rw [if_pos q]
    · rw [if_neg q, z_rep, List.getD_eq_getElem?_getD, List.getElem?_eq_none (show W.length ≤ i by omega)]
      rfl
  have y0 : x0 = W.getD 0 0 := hxi 0 (by omega)
  have y1 : x1 = W.getD 1 0 := hxi 1 (by omega)
  have y2 : x2 = W.getD 2 0 := hxi 2 (by omega)
  have y3 : x3 = W.getD 3 0 := hxi 3 (by omega)
  have y4 : x4 = W.getD 4 0 := hxi 4 (by omega)
  have y5 : x5 = W.getD 5 0 := hxi 5 (by omega)
  have y6 : x6 = W.getD 6 0 := hxi 6 (by omega)
  have y7 : x7 = W.getD 7 0 := hxi 7 (by omega)
  have iff : tT L p = nI (256 + w) ↔ tSl L (tS L p) (tN L p) = W := by rw [eT, tWord_iff hw, hW]
  have l8 : ∀ i, i < 8 → ∀ x s, s = τ → fX6_isLetter (nI i) x s = some (if (tSl L (tS L p) (tN L p)).getD i 0 = x then 1 else 0, s) := fun i hi x s es => by
    rw [es]; exact m_isLetter hL hb hp h23 h21 hi
  have no : ∀ i, i < 8 → ¬ (tSl L (tS L p) (tN L p)).getD i 0 = W.getD i 0 → (if tT L p = nI (256 + w) then (1 : Int32) else 0) = 0 := fun i hi hne => if_neg (fun q => hne (by rw [iff.mp q]))
  rw [h21, h23, show nI (tS L p) + (8 : Int32) = nI (tS L p + 8) by rw [show (8 : Int32) = nI 8 by decide, nI_add]]
  by_cases e8 : tS L p + 8 < tN L p
  · rw [if_pos (nI_lt e8 (by omega)), if_neg]
    intro q
    have := congrArg List.length (iff.mp q)
    rw [tSl_len hn] at this
    omega
  rw [if_neg (nI_nlt (by omega) (by omega))]
  rw [show fX6_isLetter (0 : Int32) x0 τ = _ from l8 0 (by omega) x0 τ rfl, z_bdS]
  by_cases g0 : (tSl L (tS L p) (tN L p)).getD 0 0 = x0
  rotate_left
  · rw [if_neg g0, if_pos rfl, no 0 (by omega) (by rw [← y0]; exact g0)]
  rw [if_pos g0, if_neg z_10]
  rw [show fX6_isLetter (1 : Int32) x1 τ = _ from l8 1 (by omega) x1 τ rfl, z_bdS]
  by_cases g1 : (tSl L (tS L p) (tN L p)).getD 1 0 = x1
  rotate_left
  · rw [if_neg g1, if_pos rfl, no 1 (by omega) (by rw [← y1]; exact g1)]
  rw [if_pos g1, if_neg z_10]
  rw [show fX6_isLetter (2 : Int32) x2 τ = _ from l8 2 (by omega) x2 τ rfl, z_bdS]
  by_cases g2 : (tSl L (tS L p) (tN L p)).getD 2 0 = x2
  rotate_left
  · rw [if_neg g2, if_pos rfl, no 2 (by omega) (by rw [← y2]; exact g2)]
  rw [if_pos g2, if_neg z_10]
  rw [show fX6_isLetter (3 : Int32) x3 τ = _ from l8 3 (by omega) x3 τ rfl, z_bdS]
  by_cases g3 : (tSl L (tS L p) (tN L p)).getD 3 0 = x3
  rotate_left
  · rw [if_neg g3, if_pos rfl, no 3 (by omega) (by rw [← y3]; exact g3)]
  rw [if_pos g3, if_neg z_10]
  rw [show fX6_isLetter (4 : Int32) x4 τ = _ from l8 4 (by omega) x4 τ rfl, z_bdS]
  by_cases g4 : (tSl L (tS L p) (tN L p)).getD 4 0 = x4
  rotate_left
  · rw [if_neg g4, if_pos rfl, no 4 (by omega) (by rw [← y4]; exact g4)]
  rw [if_pos g4, if_neg z_10]
  rw [show fX6_isLetter (5 : Int32) x5 τ = _ from l8 5 (by omega) x5 τ rfl, z_bdS]
  by_cases g5 : (tSl L (tS L p) (tN L p)).getD 5 0 = x5
  rotate_left
  · rw [if_neg g5, if_pos rfl, no 5 (by omega) (by rw [← y5]; exact g5)]
  rw [if_pos g5, if_neg z_10]
  rw [show fX6_isLetter (6 : Int32) x6 τ = _ from l8 6 (by omega) x6 τ rfl, z_bdS]
  by_cases g6 : (tSl L (tS L p) (tN L p)).getD 6 0 = x6
  rotate_left
  · rw [if_neg g6, if_pos rfl, no 6 (by omega) (by rw [← y6]; exact g6)]
  rw [if_pos g6, if_neg z_10]
  rw [show fX6_isLetter (7 : Int32) x7 τ = _ from l8 7 (by omega) x7 τ rfl, z_bdS]
  by_cases g7 : (tSl L (tS L p) (tN L p)).getD 7 0 = x7
  rotate_left
  · rw [if_neg g7, if_pos rfl, no 7 (by omega) (by rw [← y7]; exact g7)]
  rw [if_pos g7, if_neg z_10]
  rw [if_pos]
  apply iff.mpr
  refine z_wordEq hnz hWn hW8 (by rw [tSl_len hn]; omega) (fun i hi => ?_)
  rcases (show i = 0 ∨ i = 1 ∨ i = 2 ∨ i = 3 ∨ i = 4 ∨ i = 5 ∨ i = 6 ∨ i = 7 by omega) with rfl | rfl | rfl | rfl | rfl | rfl | rfl | rfl
  · rw [g0, y0]
  · rw [g1, y1]
  · rw [g2, y2]
  · rw [g3, y3]
  · rw [g4, y4]
  · rw [g5, y5]
  · rw [g6, y6]
  · rw [g7, y7]
end ZMW
