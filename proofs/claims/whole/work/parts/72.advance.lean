/-! the class's reader: TOKENS -/
def cA (σ σ' : z_Mem) : Prop := (∀ k, k ≠ 5 → σ'.1 k = σ.1 k) ∧ ∀ j, (j < 3 ∨ 6 < j) → σ'.1 5 j = σ.1 5 j
theorem cA_rf {σ : z_Mem} : cA σ σ := ⟨fun _ _ => rfl, fun _ _ => rfl⟩
theorem cA_tr {σ σ' σ'' : z_Mem} (h : cA σ σ') (h' : cA σ' σ'') : cA σ σ'' := ⟨fun k a => (h'.1 k a).trans (h.1 k a), fun j a => (h'.2 j a).trans (h.2 j a)⟩
theorem cA_pt {σ : z_Mem} {j : Nat} {v : Int32} (h : 3 ≤ j ∧ j ≤ 6) : cA σ (z_pt σ 5 j v) := ⟨fun k a => z_pt_r a, fun q a => z_pt_2 (by omega)⟩
theorem cTp_A {σ σ' : z_Mem} {L : List Int32} (h : cTp σ L) (hk : cA σ σ') : cTp σ' L := by
  unfold cTp
  rw [hk.2 2 (by omega), hk.1 6 (by omega)]
  exact h
/-- the TOKEN read from a place on lies there -/
def cR (σ : z_Mem) (L : List Int32) (p : Nat) : Prop := σ.1 5 3 = nI (tN L p) ∧ σ.1 5 4 = nI (tS L p) ∧ σ.1 5 5 = tT L p ∧ (tT L p = 2 → σ.1 5 6 = tV L p)
section ZADV
variable {L : List Int32} (hL : tOk L)
theorem c_letterAt {σ : z_Mem} {i : Nat} (h : cTp σ L) (hl : L.length ≤ 160) (hi : i < 2 ^ 31) : fX2_letterAt (nI i) σ = some (tB L i, σ) := by
  unfold fX2_letterAt
  rw [if_neg (nI_pos hi), h.1]
  by_cases e : i < L.length
  · rw [if_neg (nI_ge e (by omega)), if_neg (z_nle 160 160 (by decide) (by omega) (by decide)), z_gdT (z_inN (by omega) (by decide)), z_xN hi, h.2 i e]
    unfold tB
    rw [if_pos e]
  · rw [if_pos (nI_le (by omega) hi), tB_out (by omega)]
theorem tRun_step {P : Int32 → Bool} (hP : P (-1) = false) {i : Nat} (h : P (tB L i) = true) : tRun L P (L.length + 1) i = tRun L P (L.length + 1) (i + 1) := by
  refine tRun_eq hP (by omega) (Nat.le_trans (by omega) (tRun_ge (L := L) (P := P) (L.length + 1) (i + 1))) (fun k a b => ?_) (tRun_end hP _ _ (by omega))
  by_cases e : k = i
  · rw [e]; exact h
  · exact tRun_in (L.length + 1) (i + 1) k (by omega) b
theorem tRun_stop {P : Int32 → Bool} {i : Nat} (h : ¬ P (tB L i) = true) : tRun L P (L.length + 1) i = i := by
  rw [tRun, if_neg h]
theorem c_isDigit {b : Int32} {σ : z_Mem} : fX2_isDigit b σ = some (if tDg b = true then 1 else 0, σ) := by
  unfold fX2_isDigit tDg
  by_cases h1 : b < 48
  · rw [if_pos h1, if_neg (by simp; exact fun q => absurd (Int32.lt_of_lt_of_le h1 q) (Int32.lt_irrefl))]
  · rw [if_neg h1]
    by_cases h2 : 57 < b
    · rw [if_pos h2, if_neg (by simp; exact fun _ => h2)]
    · rw [if_neg h2, if_pos (by simp; exact ⟨Int32.not_lt.mp h1, Int32.not_lt.mp h2⟩)]
theorem c_isSmall {b : Int32} {σ : z_Mem} : fX2_isSmall b σ = some (if tSm b = true then 1 else 0, σ) := by
  unfold fX2_isSmall tSm
  by_cases h1 : b < 97
  · rw [if_pos h1, if_neg (by simp; exact fun q => absurd (Int32.lt_of_lt_of_le h1 q) (Int32.lt_irrefl))]
  · rw [if_neg h1]
    by_cases h2 : 122 < b
    · rw [if_pos h2, if_neg (by simp; exact fun _ => h2)]
    · rw [if_neg h2, if_pos (by simp; exact ⟨Int32.not_lt.mp h1, Int32.not_lt.mp h2⟩)]
theorem c_isSign {b : Int32} {σ : z_Mem} : fX2_isSign b σ = some (if tSg b = true then 1 else 0, σ) := by
  unfold fX2_isSign tSg
  by_cases h1 : b = 40
  · simp [h1]
  by_cases h2 : b = 41
  · simp [h2]
  by_cases h3 : b = 59
  · simp [h3]
  by_cases h4 : b = 43
  · simp [h4]
  by_cases h5 : b = 45
  · simp [h5]
  by_cases h6 : b = 42
  · simp [h6]
  by_cases h7 : b = 60
  · simp [h7]
  by_cases h8 : b = 61
  · simp [h8]
  simp [h1, h2, h3, h4, h5, h6, h7, h8]
theorem c_blanks (hL : tOk L) {P : Unit → z_Mem → Prop} : ∀ (m q k i : Nat) (σ : z_Mem), cTp σ L → σ.1 5 3 = nI i → i ≤ L.length → k ≤ i → k + m = 161 → m < q → (∀ σ', cTp σ' L → σ'.1 5 3 = nI (tRun L tBl (L.length + 1) i) → cA σ σ' → z_R (fX2_advance_j51 σ') P) → z_R (fX2_advance_2 q (nI k) σ) P
  | m, 0, k, i, σ, _, _, _, _, _, h, _ => absurd h (Nat.not_lt_zero _)
  | m, q + 1, k, i, σ, h, h3, hi, hk, hm, hq, hK => by
    have hl := hL.1
    rw [fX2_advance_2]
    by_cases k160 : 160 ≤ k
    · rw [if_pos (z_lle 160 160 (by decide) k160 (by omega))]
      refine hK σ h ?_ cA_rf
      rw [h3, tRun_stop (by rw [tB_out (by omega)]; decide)]
    rw [if_neg (z_nle 160 160 (by decide) (by omega) (by decide)), h3, z_bdE (c_letterAt h hl (by omega))]
    match m, hm, hq with
    | 0, hm, hq => omega
    | m + 1, hm, hq =>
      have go : tBl (tB L i) = true → z_R (fX2_advance_2 q (nI (k + 1)) (z_pt σ 5 3 (nI (i + 1)))) P := fun hb => by
        have hlt : i < L.length := by
          apply Classical.byContradiction
          intro e
          rw [tB_out (by omega)] at hb
          exact absurd hb (by decide)
        refine c_blanks hL m q (k + 1) (i + 1) _ (cTp_A h (cA_pt (by omega))) z_pt_1 (by omega) (by omega) (by omega) (by omega) (fun σ' c1 c2 c3 => hK σ' c1 ?_ (cA_tr (cA_pt (by omega)) c3))
        rw [c2, ← tRun_step tBl_1 hb]
      by_cases e32 : tB L i = 32
      · rw [if_pos e32, z_stE, h3, nI_1, nI_1]
        exact go (by rw [e32]; decide)
      · rw [if_neg e32, h3, z_bdE (c_letterAt h hl (by omega))]
        by_cases e10 : tB L i = 10
        · rw [if_pos e10, z_stE, h3, nI_1, nI_1]
          exact go (by rw [e10]; decide)
        · rw [if_neg e10]
          refine hK σ h ?_ cA_rf
          rw [h3, tRun_stop (by unfold tBl; simp [e32, e10])]
theorem tSl_cons {s e : Nat} (h : s < e) (he : e ≤ L.length) : tSl L s e = tB L s :: tSl L (s + 1) e := by
  unfold tSl tB
  rw [if_pos (by omega), List.drop_eq_getElem_cons (by omega), show e - s = (e - (s + 1)) + 1 by omega, List.take_succ_cons, List.getD_eq_getElem?_getD, List.getElem?_eq_getElem (by omega)]
  rfl
theorem tSl_nil {s : Nat} : tSl L s s = [] := by
  unfold tSl
  simp
theorem c_digits_loop (hL : tOk L) : ∀ (m q k i : Nat) (v : Int32) (σ : z_Mem), cTp σ L → σ.1 5 3 = nI i → σ.1 5 6 = v → i ≤ L.length → k ≤ i → k + m = 161 → m < q → z_R (fX2_readDigits_7 q (nI k) σ) (fun _ σ' => cA σ σ' ∧ σ'.1 5 3 = nI (tRun L tDg (L.length + 1) i) ∧ σ'.1 5 4 = σ.1 5 4 ∧ σ'.1 5 6 = tW (tSl L i (tRun L tDg (L.length + 1) i)) v ∧ σ'.1 5 5 = (if nI (tRun L tDg (L.length + 1) i) - σ.1 5 4 ≤ 4 then 2 else 1))
  | m, 0, k, i, v, σ, _, _, _, _, _, _, h => absurd h (Nat.not_lt_zero _)
  | m, q + 1, k, i, v, σ, h, h3, h6, hi, hk, hm, hq => by
    have hl := hL.1
    have fin : tRun L tDg (L.length + 1) i = i → z_R (fX2_readDigits_j67 σ) (fun _ σ' => cA σ σ' ∧ σ'.1 5 3 = nI (tRun L tDg (L.length + 1) i) ∧ σ'.1 5 4 = σ.1 5 4 ∧ σ'.1 5 6 = tW (tSl L i (tRun L tDg (L.length + 1) i)) v ∧ σ'.1 5 5 = (if nI (tRun L tDg (L.length + 1) i) - σ.1 5 4 ≤ 4 then 2 else 1)) := fun e => by
      rw [e, tSl_nil]
      unfold fX2_readDigits_j67
      rw [h3]
      by_cases q4 : nI i - σ.1 5 4 ≤ 4
      · rw [if_pos q4, if_pos q4, z_stE]
        exact z_R_some ⟨cA_pt (by omega), by rw [z_pt_2 (by decide)]; exact h3, z_pt_2 (by decide), by rw [z_pt_2 (by decide)]; exact h6, z_pt_1⟩
      · rw [if_neg q4, if_neg q4, z_stE]
        exact z_R_some ⟨cA_pt (by omega), by rw [z_pt_2 (by decide)]; exact h3, z_pt_2 (by decide), by rw [z_pt_2 (by decide)]; exact h6, z_pt_1⟩
    rw [fX2_readDigits_7]
    by_cases k160 : 160 ≤ k
    · rw [if_pos (z_lle 160 160 (by decide) k160 (by omega))]
      exact fin (tRun_stop (by rw [tB_out (by omega)]; decide))
    rw [if_neg (z_nle 160 160 (by decide) (by omega) (by decide)), h3, z_bdE (c_letterAt h hl (by omega)), z_bdE c_isDigit]
    match m, hm, hq with
    | 0, hm, hq => omega
    | m + 1, hm, hq =>
      by_cases hb : tDg (tB L i) = true
      · have hlt : i < L.length := by
          apply Classical.byContradiction
          intro e
          rw [tB_out (by omega)] at hb
          exact absurd hb (by decide)
        have hr := tRun_step tDg_1 hb
        have hle := tRun_le tDg_1 (L.length + 1) (i + 1) (show i + 1 ≤ L.length by omega)
        have hge := tRun_ge (L := L) (P := tDg) (L.length + 1) (i + 1)
        rw [if_pos hb, if_neg z_10, h3, z_bdE (c_letterAt h hl (by omega)), z_stE, z_stE, z_pt_2 (by decide), h3, nI_1, nI_1, h6]
        have IH := c_digits_loop hL m q (k + 1) (i + 1) (v * 10 + tB L i - 48) (z_pt (z_pt σ 5 6 (v * 10 + tB L i - 48)) 5 3 (nI (i + 1))) (cTp_A h (cA_tr (cA_pt (by omega)) (cA_pt (by omega)))) z_pt_1 (by rw [z_pt_2 (by decide), z_pt_1]) (by omega) (by omega) (by omega) (by omega)
        have e4 : (z_pt (z_pt σ 5 6 (v * 10 + tB L i - 48)) 5 3 (nI (i + 1))).1 5 4 = σ.1 5 4 := by rw [z_pt_2 (by decide), z_pt_2 (by decide)]
        rw [e4, ← hr] at IH
        refine z_R_mono IH (fun r s hh => ⟨cA_tr (cA_tr (cA_pt (by omega)) (cA_pt (by omega))) hh.1, hh.2.1, hh.2.2.1, ?_, hh.2.2.2.2⟩)
        rw [hh.2.2.2.1, hr, tSl_cons (s := i) (by omega) hle, tW]
      · rw [if_neg hb, if_pos rfl]
        exact fin (tRun_stop hb)
theorem c_small_loop (hL : tOk L) {P : Unit → z_Mem → Prop} : ∀ (m q k i : Nat) (σ : z_Mem), cTp σ L → σ.1 5 3 = nI i → i ≤ L.length → k ≤ i → k + m = 161 → m < q → (∀ σ', cTp σ' L → σ'.1 5 3 = nI (tRun L tSm (L.length + 1) i) → σ'.1 5 4 = σ.1 5 4 → cA σ σ' → z_R (fX2_readWord_j39 σ') P) → z_R (fX2_readWord_2 q (nI k) σ) P
  | m, 0, k, i, σ, _, _, _, _, _, h, _ => absurd h (Nat.not_lt_zero _)
  | m, q + 1, k, i, σ, h, h3, hi, hk, hm, hq, hK => by
    have hl := hL.1
    rw [fX2_readWord_2]
    by_cases k160 : 160 ≤ k
    · rw [if_pos (z_lle 160 160 (by decide) k160 (by omega))]
      refine hK σ h ?_ rfl cA_rf
      rw [h3, tRun_stop (by rw [tB_out (by omega)]; decide)]
    rw [if_neg (z_nle 160 160 (by decide) (by omega) (by decide)), h3, z_bdE (c_letterAt h hl (by omega)), z_bdE c_isSmall]
    match m, hm, hq with
    | 0, hm, hq => omega
    | m + 1, hm, hq =>
      by_cases hb : tSm (tB L i) = true
      · have hlt : i < L.length := by
          apply Classical.byContradiction
          intro e
          rw [tB_out (by omega)] at hb
          exact absurd hb (by decide)
        rw [if_pos hb, if_neg z_10, z_stE, h3, nI_1, nI_1]
        refine c_small_loop hL m q (k + 1) (i + 1) _ (cTp_A h (cA_pt (by omega))) z_pt_1 (by omega) (by omega) (by omega) (by omega) (fun σ' c1 c2 c3 c4 => hK σ' c1 ?_ ?_ (cA_tr (cA_pt (by omega)) c4))
        · rw [c2, ← tRun_step tSm_1 hb]
        · rw [c3, z_pt_2 (by decide)]
      · rw [if_neg hb, if_pos rfl]
        refine hK σ h ?_ rfl cA_rf
        rw [h3, tRun_stop hb]
theorem z_wlen : ∀ w, w < 13 → z_slenN (1000 + w) = (z_byt.getD w []).length := by decide
theorem c_here_loop {s e k : Nat} {σ : z_Mem} (h : cTp σ L) (h3 : σ.1 5 3 = nI e) (h4 : σ.1 5 4 = nI s) (he : e ≤ L.length) (hl : L.length ≤ 160) (hk : k < 13) (hs : s ≤ e) (hlen : (z_byt.getD k []).length = e - s) : ∀ (m q i : Nat), s + i + m = e → m < q → fX2_isHere_23 q (1000 + k) (nI (s + i)) σ = some (if tSl L (s + i) e = (z_byt.getD k []).drop i then 1 else 0, σ)
  | m, 0, i, _, h => absurd h (Nat.not_lt_zero _)
  | 0, q + 1, i, hi, hq => by
    have : s + i = e := by omega
    rw [fX2_isHere_23, h3, if_pos (nI_le (by omega) (by omega)), this, tSl_nil, List.drop_eq_nil_of_le (by omega), if_pos rfl]
  | m + 1, q + 1, i, hi, hq => by
    have e1 : nI (s + i) - nI s = nI i := by rw [pk_sub (by omega)]; exact congrArg nI (by omega)
    have hil : i < (z_byt.getD k []).length := by omega
    rw [fX2_isHere_23, h3, h4, if_neg (nI_ge (by omega) (by omega)), if_neg (z_nle 160 160 (by decide) (by omega) (by decide)), e1, z_gdT ⟨⟨by omega, by omega⟩, by rw [z_wlen k hk]; exact z_inN (by omega) (by omega)⟩, z_gdT (z_inN (by omega) (by decide)), z_xN (show s + i < 2 ^ 31 by omega), h.2 (s + i) (by omega), nI_1]
    have ec : z_sch (1000 + k) (nI i) = (z_byt.getD k [])[i] := by
      unfold z_sch
      rw [z_xN (by omega), show 1000 + k - 1000 = k by omega, List.getD_eq_getElem?_getD, List.getElem?_eq_getElem hil]
      rfl
    have eb : L.getD (s + i) 0 = tB L (s + i) := by unfold tB; rw [if_pos (by omega)]
    rw [ec, eb, tSl_cons (s := s + i) (by omega) he, List.drop_eq_getElem_cons hil]
    have IH := c_here_loop h h3 h4 he hl hk hs hlen m q (i + 1) (by omega) (by omega)
    rw [show s + (i + 1) = s + i + 1 by omega] at IH
    by_cases q1 : (z_byt.getD k [])[i] = tB L (s + i)
    · rw [if_pos q1, IH, q1]
      by_cases q2 : tSl L (s + i + 1) e = (z_byt.getD k []).drop (i + 1)
      · rw [if_pos q2, if_pos (by rw [q2])]
      · rw [if_neg q2, if_neg (fun x => q2 (List.cons.inj x).2)]
    · rw [if_neg q1, if_neg (fun x => q1 (List.cons.inj x).1.symm)]
theorem c_isHere {s e k : Nat} {σ : z_Mem} (h : cTp σ L) (h3 : σ.1 5 3 = nI e) (h4 : σ.1 5 4 = nI s) (he : e ≤ L.length) (hl : L.length ≤ 160) (hk : k < 13) (hs : s ≤ e) : fX2_isHere (1000 + k) σ = some (if tSl L s e = z_byt.getD k [] then 1 else 0, σ) := by
  unfold fX2_isHere
  have e1 : nI e - nI s = nI (e - s) := pk_sub hs
  have e2 : z_slen (1000 + k) = nI (z_byt.getD k []).length := by
    unfold z_slen
    rw [z_wlen k hk]
    rfl
  have hb : (z_byt.getD k []).length < 2 ^ 31 := by
    have : ∀ w, w < 13 → (z_byt.getD w []).length < 100 := by decide
    have := this k hk
    omega
  rw [z_gdT ⟨by omega, by omega⟩, e2, h3, h4, e1]
  by_cases q : (z_byt.getD k []).length = e - s
  · rw [if_pos (by rw [q])]
    have := c_here_loop h h3 h4 he hl hk hs q (e - s) z_FU 0 (by omega) (by simp only [z_FU]; omega)
    rw [Nat.add_zero, List.drop_zero] at this
    exact this
  · rw [if_neg (by rw [z_eq_nI hb (by omega)]; exact q), if_neg (fun x => q (by rw [← x, tSl_len he]))]
theorem z_words : ∀ w, w < 12 → tWord (z_byt.getD (w + 1) []) = nI (256 + w) := by decide
theorem c_word {w : Nat} {σ : z_Mem} (hw : w < 12) : fX2_word (nI w) σ = some (1000 + (w + 1), σ) := by
  unfold fX2_word
  rcases (show w = 0 ∨ w = 1 ∨ w = 2 ∨ w = 3 ∨ w = 4 ∨ w = 5 ∨ w = 6 ∨ w = 7 ∨ w = 8 ∨ w = 9 ∨ w = 10 ∨ w = 11 by omega) with rfl | rfl | rfl | rfl | rfl | rfl | rfl | rfl | rfl | rfl | rfl | rfl <;> rfl
theorem c_word_loop {s e : Nat} (he : e ≤ L.length) (hl : L.length ≤ 160) (hs : s ≤ e) : ∀ (m q w : Nat) (σ : z_Mem), cTp σ L → σ.1 5 3 = nI e → σ.1 5 4 = nI s → σ.1 5 5 = 1 → (∀ k, k < w → ¬ tSl L s e = z_byt.getD (k + 1) []) → w + m = 12 → m < q → z_R (fX2_readWord_46 q (nI w) σ) (fun _ σ' => cA σ σ' ∧ σ'.1 5 3 = nI e ∧ σ'.1 5 4 = nI s ∧ σ'.1 5 5 = tWord (tSl L s e))
  | m, 0, w, σ, _, _, _, _, _, _, h => absurd h (Nat.not_lt_zero _)
  | 0, q + 1, w, σ, h, h3, h4, h5, hn, hw, hq => by
    have : w = 12 := by omega
    subst this
    rw [fX2_readWord_46, if_pos (by decide)]
    refine z_R_some ⟨cA_rf, h3, h4, ?_⟩
    rcases tWord_in (tSl L s e) with e1 | ⟨k, hk, e1, -⟩
    · rw [h5, e1]
    · exact absurd e1 (hn k hk)
  | m + 1, q + 1, w, σ, h, h3, h4, h5, hn, hw, hq => by
    rw [fX2_readWord_46, if_neg (z_nle 12 12 (by decide) (by omega) (by decide)), if_pos h5, z_bdE (c_word (by omega)), z_bdE (c_isHere h h3 h4 he hl (by omega) hs), nI_1]
    by_cases e1 : tSl L s e = z_byt.getD (w + 1) []
    · rw [if_pos e1, if_neg z_10, z_stE]
      have ew : (256 : Int32) + nI w = nI (256 + w) := by rw [show (256 : Int32) = nI 256 by decide, nI_add]
      have et : tWord (tSl L s e) = nI (256 + w) := by rw [e1]; exact z_words w (by omega)
      rw [ew]
      have fin : z_R (fX2_readWord_46 q (nI (w + 1)) (z_pt σ 5 5 (nI (256 + w)))) (fun _ σ' => cA σ σ' ∧ σ'.1 5 3 = nI e ∧ σ'.1 5 4 = nI s ∧ σ'.1 5 5 = tWord (tSl L s e)) := by
        match q, hq with
        | q + 1, hq =>
          rw [fX2_readWord_46, z_pt_1, if_neg (show ¬ nI (256 + w) = (1 : Int32) by rw [show (1 : Int32) = nI 1 by decide, z_eq_nI (by omega) (by omega)]; omega), ite_self]
          exact z_R_some ⟨cA_pt (by omega), by rw [z_pt_2 (by decide)]; exact h3, by rw [z_pt_2 (by decide)]; exact h4, by rw [z_pt_1, et]⟩
      exact fin
    · rw [if_neg e1, if_pos rfl]
      exact c_word_loop he hl hs m q (w + 1) σ h h3 h4 h5 (fun k hk => by
        by_cases q : k = w
        · rw [q]; exact e1
        · exact hn k (by omega)) (by omega) (by omega)
theorem c_advance (hL : tOk L) {p : Nat} {σ : z_Mem} (h : cTp σ L) (h3 : σ.1 5 3 = nI p) (hp : p ≤ L.length) : z_R (fX2_advance σ) (fun _ σ' => cA σ σ' ∧ cR σ' L p) := by
  have hl := hL.1
  unfold fX2_advance
  have K := c_blanks (P := fun _ σ' => cA σ σ' ∧ cR σ' L p) hL 161 z_FU 0 p σ h h3 hp (by omega) (by omega) (by decide) (fun s hs h3s hk => by
    have hsle := tS_le (L := L) hp
    have h3s' : s.1 5 3 = nI (tS L p) := h3s
    have fN := tN_le hL hp
    unfold fX2_advance_j51
    rw [z_stE, z_pt_2 (by decide), h3s']
    generalize hs1 : z_pt s 5 4 (nI (tS L p)) = s1
    have k1 : cA σ s1 := by rw [← hs1]; exact cA_tr hk (cA_pt (by omega))
    have t1 : cTp s1 L := cTp_A h k1
    have e3 : s1.1 5 3 = nI (tS L p) := by rw [← hs1, z_pt_2 (by decide)]; exact h3s'
    have e4 : s1.1 5 4 = nI (tS L p) := by rw [← hs1, z_pt_1]
    rw [z_bdE (c_letterAt t1 hl (by omega))]
    by_cases b0 : tB L (tS L p) = -1
    · have eN : tN L p = tS L p := by unfold tN; rw [if_pos b0]
      have eT : tT L p = 0 := by unfold tT; rw [if_pos b0]
      rw [if_pos b0, z_stE]
      refine z_R_some ⟨cA_tr k1 (cA_pt (by omega)), ?_, ?_, ?_, fun q => ?_⟩
      · rw [z_pt_2 (by decide), eN]; exact e3
      · rw [z_pt_2 (by decide)]; exact e4
      · rw [z_pt_1, eT]
      · rw [eT] at q; exact absurd q (by decide)
    rw [if_neg b0, z_bdE c_isDigit]
    by_cases b1 : tDg (tB L (tS L p)) = true
    · have eN : tN L p = tRun L tDg (L.length + 1) (tS L p) := by unfold tN; rw [if_neg b0, if_pos b1]
      have eT : tT L p = if tN L p - tS L p ≤ 4 then 2 else 1 := by unfold tT; rw [if_neg b0, if_pos b1]
      rw [if_pos b1, if_neg z_10]
      unfold fX2_readDigits
      rw [z_stE]
      have D := c_digits_loop hL 161 z_FU 0 (tS L p) 0 (z_pt s1 5 6 0) (cTp_A t1 (cA_pt (by omega))) (by rw [z_pt_2 (by decide)]; exact e3) z_pt_1 hsle (by omega) (by omega) (by decide)
      rw [nI_0, z_pt_2 (show 4 ≠ 6 by decide), e4, ← eN] at D
      obtain ⟨u, s2, f2, d1, d2, d3, d4, d5⟩ := D
      rw [z_bdE f2]
      refine z_R_some ⟨cA_tr (cA_tr k1 (cA_pt (by omega))) d1, d2, d3, ?_, fun _ => d4⟩
      rw [d5, eT, pk_sub tN_ge]
      by_cases q : tN L p - tS L p ≤ 4
      · rw [if_pos q, if_pos (by rw [show (4 : Int32) = nI 4 by decide]; exact nI_le q (by decide))]
      · rw [if_neg q, if_neg (by rw [show (4 : Int32) = nI 4 by decide]; exact nI_ge (by omega) (by omega))]
    rw [if_neg b1, if_pos rfl, z_bdE c_isSmall]
    by_cases b2 : tSm (tB L (tS L p)) = true
    · have eN : tN L p = tRun L tSm (L.length + 1) (tS L p) := by unfold tN; rw [if_neg b0, if_neg b1, if_pos b2]
      have eT : tT L p = tWord (tSl L (tS L p) (tN L p)) := by unfold tT; rw [if_neg b0, if_neg b1, if_pos b2]
      rw [if_pos b2, if_neg z_10]
      unfold fX2_readWord
      have W := c_small_loop (P := fun _ σ' => cA σ σ' ∧ cR σ' L p) hL 161 z_FU 0 (tS L p) s1 t1 e3 hsle (by omega) (by omega) (by decide) (fun s2 c1 c2 c3 c4 => by
        unfold fX2_readWord_j39
        rw [z_stE]
        rw [← eN] at c2
        have := c_word_loop (s := tS L p) (e := tN L p) fN hl tN_ge 12 z_FU 0 (z_pt s2 5 5 1) (cTp_A c1 (cA_pt (by omega))) (by rw [z_pt_2 (by decide)]; exact c2) (by rw [z_pt_2 (by decide), c3]; exact e4) z_pt_1 (fun k hk => by omega) (by omega) (by decide)
        rw [nI_0] at this
        refine z_R_mono this (fun r s3 hh => ⟨cA_tr (cA_tr k1 c4) (cA_tr (cA_pt (by omega)) hh.1), hh.2.1, hh.2.2.1, by rw [hh.2.2.2, eT], fun q => ?_⟩)
        rw [eT] at q
        rcases tWord_in (tSl L (tS L p) (tN L p)) with e | ⟨k, hk, -, e⟩
        · rw [e] at q; exact absurd q (by decide)
        · rw [e, show (2 : Int32) = nI 2 by decide, z_eq_nI (by omega) (by omega)] at q; omega)
      rw [nI_0] at W
      obtain ⟨u, s4, f4, w4⟩ := W
      rw [z_bdE f4]
      exact z_R_some w4
    rw [if_neg b2, if_pos rfl, z_bdE c_isSign]
    have eN : tN L p = tS L p + 1 := by unfold tN; rw [if_neg b0, if_neg b1, if_neg b2]
    by_cases b3 : tSg (tB L (tS L p)) = true
    · have eT : tT L p = tB L (tS L p) := by unfold tT; rw [if_neg b0, if_neg b1, if_neg b2, if_pos b3]
      rw [if_pos b3, if_neg z_10, z_stE, z_stE, z_pt_2 (by decide), e3, nI_1]
      refine z_R_some ⟨cA_tr k1 (cA_tr (cA_pt (by omega)) (cA_pt (by omega))), ?_, ?_, ?_, fun q => ?_⟩
      · rw [z_pt_1, eN]
      · rw [z_pt_2 (by decide), z_pt_2 (by decide)]; exact e4
      · rw [z_pt_2 (by decide), z_pt_1, eT]
      · rw [eT] at q
        rw [q] at b3
        exact absurd b3 (by decide)
    · have eT : tT L p = 1 := by unfold tT; rw [if_neg b0, if_neg b1, if_neg b2, if_neg b3]
      rw [if_neg b3, if_pos rfl, z_stE, z_stE, z_pt_2 (by decide), e3, nI_1]
      refine z_R_some ⟨cA_tr k1 (cA_tr (cA_pt (by omega)) (cA_pt (by omega))), ?_, ?_, ?_, fun q => ?_⟩
      · rw [z_pt_1, eN]
      · rw [z_pt_2 (by decide), z_pt_2 (by decide)]; exact e4
      · rw [z_pt_2 (by decide), z_pt_1, eT]
      · rw [eT] at q; exact absurd q (by decide))
  rw [nI_0] at K
  exact K
end ZADV
