/-! the abstract marsh: how many MEN, THE RING, kinds, numbers, strengths, hour, cold, rule -/
abbrev aS : Type := Nat × List Nat × (Nat → Int32) × (Nat → Int32) × (Nat → Int32) × Int32 × Int32 × Nat
abbrev an (a : aS) : Nat := a.1
abbrev ar (a : aS) : List Nat := a.2.1
abbrev ak (a : aS) : Nat → Int32 := a.2.2.1
abbrev am (a : aS) : Nat → Int32 := a.2.2.2.1
abbrev as_ (a : aS) : Nat → Int32 := a.2.2.2.2.1
abbrev ah (a : aS) : Int32 := a.2.2.2.2.2.1
abbrev ac (a : aS) : Int32 := a.2.2.2.2.2.2.1
abbrev au (a : aS) : Nat := a.2.2.2.2.2.2.2
/-- well formed -/
def aW (a : aS) : Prop := an a ≤ 6 ∧ (ar a).Nodup ∧ (∀ p ∈ ar a, p < an a) ∧ (ar a).length ≤ an a ∧ (∀ i, i < 6 → (0 ≤ (ak a i).toInt ∧ (ak a i).toInt ≤ 5) ∧ (0 ≤ (am a i).toInt ∧ (am a i).toInt ≤ 9) ∧ (0 ≤ (as_ a i).toInt ∧ (as_ a i).toInt ≤ 99)) ∧ (0 ≤ (ah a).toInt ∧ (ah a).toInt ≤ 1100) ∧ (0 ≤ (ac a).toInt ∧ (ac a).toInt ≤ 99)
/-- the class's Marsh at cell c holds it -/
def cM (σ : z_Mem) (c : Nat) (a : aS) : Prop := σ.1 c 5 = nI (an a) ∧ σ.1 c 6 = nI (ar a).length ∧ σ.1 c 7 = ah a ∧ σ.1 c 8 = ac a ∧ σ.1 c 9 = nI (au a) ∧ (∀ i, i < 6 → σ.1 (c + 1) i = ak a i ∧ σ.1 (c + 2) i = am a i ∧ σ.1 (c + 3) i = as_ a i) ∧ ∀ i, i < (ar a).length → σ.1 (c + 4) i = nI ((ar a).getD i 0)
/-- the same memory but for the cells of S -/
def cK (S : Nat → Prop) (σ σ' : z_Mem) : Prop := ∀ k, ¬ S k → σ'.1 k = σ.1 k
theorem cK_rf {S : Nat → Prop} {σ : z_Mem} : cK S σ σ := fun _ _ => rfl
theorem cK_tr {S : Nat → Prop} {σ σ' σ'' : z_Mem} (h : cK S σ σ') (h' : cK S σ' σ'') : cK S σ σ'' := fun k hk => (h' k hk).trans (h k hk)
theorem cK_mono {S T : Nat → Prop} {σ σ' : z_Mem} (h : cK S σ σ') (hs : ∀ k, S k → T k) : cK T σ σ' := fun k hk => h k (fun q => hk (hs k q))
theorem cM_kept {S : Nat → Prop} {σ σ' : z_Mem} {c : Nat} {a : aS} (h : cM σ c a) (hk : cK S σ σ') (h0 : ∀ i, i < 5 → ¬ S (c + i)) : cM σ' c a := by
  have e0 := hk c (h0 0 (by omega))
  have e1 := hk (c + 1) (h0 1 (by omega))
  have e2 := hk (c + 2) (h0 2 (by omega))
  have e3 := hk (c + 3) (h0 3 (by omega))
  have e4 := hk (c + 4) (h0 4 (by omega))
  unfold cM
  rw [e0, e1, e2, e3, e4]
  exact h
theorem aW_len {a : aS} (h : aW a) : (ar a).length ≤ 6 := Nat.le_trans h.2.2.2.1 h.1
theorem c_has {σ : z_Mem} {c : Nat} {a : aS} {x : Int32} (h : cM σ c a) (hw : aW a) : fX0_has c x σ = some (if 0 ≤ x.toInt ∧ x.toInt < an a then 1 else 0, σ) := by
  have h6 := hw.1
  unfold fX0_has
  rw [h.1]
  simp only [Int32.lt_iff_toInt_lt, Int32.le_iff_toInt_le, nI_toInt (show an a < 2 ^ 31 by omega)]
  simp
  repeat' split
  all_goals first | rfl | omega
theorem c_hasN {σ : z_Mem} {c p : Nat} {a : aS} (h : cM σ c a) (hw : aW a) (hp : p < an a) : fX0_has c (nI p) σ = some (1, σ) := by
  have h6 := hw.1
  rw [c_has h hw, nI_toInt (by omega), if_pos (by omega)]
theorem c_whoN {σ : z_Mem} {c i : Nat} {a : aS} (h : cM σ c a) (hw : aW a) (hi : i < (ar a).length) : fX0_who c (nI i) σ = some (nI ((ar a).getD i 0), σ) := by
  have h6 := aW_len hw
  have hr := h.2.2.2.2.2.2 i hi
  unfold fX0_who
  rw [h.2.1, z_xN (by omega), hr]
  simp only [Int32.lt_iff_toInt_lt, Int32.le_iff_toInt_le, nI_toInt (show i < 2 ^ 31 by omega), nI_toInt (show (ar a).length < 2 ^ 31 by omega)]
  rw [z_gdT (z_inN (by omega) (by omega))]
  simp
  repeat' split
  all_goals first | rfl | omega
theorem c_whoX {σ : z_Mem} {c : Nat} {x : Int32} {a : aS} (h : cM σ c a) (hw : aW a) (hi : ¬ (0 ≤ x.toInt ∧ x.toInt < (ar a).length)) : fX0_who c x σ = some (-1, σ) := by
  have h6 := aW_len hw
  unfold fX0_who
  rw [h.2.1]
  simp only [Int32.lt_iff_toInt_lt, Int32.le_iff_toInt_le, nI_toInt (show (ar a).length < 2 ^ 31 by omega)]
  simp
  repeat' split
  all_goals first | rfl | omega
theorem c_holds {σ : z_Mem} {c : Nat} {a : aS} (h : cM σ c a) (hw : aW a) : fX0_holds c σ = some (nI (if (ar a).length < 2 then 0 else (ar a).length), σ) := by
  have h6 := aW_len hw
  unfold fX0_holds
  rw [h.2.1]
  simp only [Int32.lt_iff_toInt_lt, Int32.le_iff_toInt_le, nI_toInt (show (ar a).length < 2 ^ 31 by omega)]
  simp
  repeat' split
  all_goals first | rfl | omega
theorem c_behind {σ : z_Mem} {c i : Nat} {a : aS} (h : cM σ c a) (hw : aW a) (hi : i < (ar a).length) : fX0_placeBehind c (nI i) σ = some (nI ((i + 1) % (ar a).length), σ) := by
  have h6 := aW_len hw
  unfold fX0_placeBehind
  rw [h.2.1, nI_1]
  by_cases hl : i + 1 = (ar a).length
  · rw [hl, Nat.mod_self, if_pos (nI_le (Nat.le_refl _) (by omega))]; rfl
  · rw [Nat.mod_eq_of_lt (by omega), if_neg (nI_ge (by omega) (by omega))]
/-- a number written out against a counted one -/
theorem z_nle (x : Int32) (N : Nat) {i : Nat} (hx : x = nI N) (h : i < N) (hN : N < 2 ^ 31) : ¬ x ≤ nI i := by rw [hx]; exact nI_ge h hN
theorem z_lle (x : Int32) (N : Nat) {i : Nat} (hx : x = nI N) (h : N ≤ i) (hi : i < 2 ^ 31) : x ≤ nI i := by rw [hx]; exact nI_le h hi
theorem z_getD {l : List Nat} {i : Nat} (h : i < l.length) : l.getD i 0 = l[i] := by simp [List.getD, h]
/-- the first place of one, from k on -/
def apl : List Nat → Int32 → Nat → Int32
  | [], _, _ => -1
  | p :: l, x, k => if nI p = x then nI k else apl l x (k + 1)
theorem c_placeOf_loop {σ : z_Mem} {c : Nat} {a : aS} {x : Int32} (h : cM σ c a) (hw : aW a) : ∀ (q i : Nat), i ≤ (ar a).length → (ar a).length - i < q → fX0_placeOf_2 c q x (nI i) σ = some (apl ((ar a).drop i) x i, σ)
  | 0, i, _, h => absurd h (Nat.not_lt_zero _)
  | q + 1, i, hi, hq => by
    have h6 := aW_len hw
    rw [fX0_placeOf_2, h.2.1]
    by_cases hl : i = (ar a).length
    · subst hl
      rw [if_pos (nI_le (Nat.le_refl _) (by omega)), List.drop_length]
      rfl
    · have hi' : i < (ar a).length := by omega
      rw [if_neg (nI_ge hi' (by omega)), if_neg (z_nle 6 6 (i := i) (by decide) (by omega) (by decide)), z_gdT (z_inN (by omega) (by decide)), z_xN (by omega), h.2.2.2.2.2.2 i hi', List.drop_eq_getElem_cons hi', apl]
      rw [z_getD hi']
      by_cases he : nI (ar a)[i] = x
      · rw [if_pos he, if_pos he]
      · rw [if_neg he, if_neg he, nI_1]
        exact c_placeOf_loop h hw q (i + 1) hi' (by omega)
theorem c_placeOf {σ : z_Mem} {c : Nat} {a : aS} {x : Int32} (h : cM σ c a) (hw : aW a) : fX0_placeOf c x σ = some (apl (ar a) x 0, σ) := by
  have h6 := aW_len hw
  unfold fX0_placeOf
  have := c_placeOf_loop (x := x) h hw z_FU 0 (Nat.zero_le _) (by simp only [z_FU]; omega)
  rw [nI_0] at this
  simpa using this
theorem z_cp_f (σ : z_Mem) (k k' j' : Nat) (g : Nat → Int32) : (z_cp σ k g).1 k' j' = if k' = k then g j' else σ.1 k' j' := by
  by_cases h : k' = k <;> simp [z_cp, va_up, h]
theorem z_cp_pt {σ : z_Mem} {k j : Nat} {v : Int32} {g : Nat → Int32} : z_cp (z_pt σ k j v) k g = z_cp σ k g := by
  unfold z_cp z_pt
  congr 1
  funext q
  by_cases h : q = k <;> simp [va_up, h]
theorem c_leave_loop {c : Nat} : ∀ (q i m : Nat) (σ : z_Mem), σ.1 c 6 = nI m → m ≤ 5 → i ≤ m → m - i < q → fX0_leave_34 c q (nI i) σ = some ((), z_cp σ (c + 4) (fun j => if i ≤ j ∧ j < m then σ.1 (c + 4) (j + 1) else σ.1 (c + 4) j))
  | 0, i, m, σ, _, _, _, h => absurd h (Nat.not_lt_zero _)
  | q + 1, i, m, σ, hm, h5, hi, hq => by
    rw [fX0_leave_34, hm]
    by_cases hl : i = m
    · subst hl
      rw [if_pos (nI_le (Nat.le_refl _) (by omega))]
      congr 2
      unfold z_cp
      refine Prod.ext ?_ rfl
      funext k
      by_cases hk : k = c + 4
      · subst hk
        funext j
        simp only [va_up]
        rw [if_pos trivial, if_neg (by omega)]
      · simp [va_up, hk]
    · have hi' : i < m := by omega
      rw [if_neg (nI_ge hi' (by omega)), nI_1, z_gdT (z_inN (by omega) (by decide)), z_gdT (z_inN (by omega) (by decide)), z_xN (by omega), z_xN (by omega)]
      show fX0_leave_34 c q (nI (i + 1)) (z_pt σ (c + 4) i (σ.1 (c + 4) (i + 1))) = _
      rw [c_leave_loop q (i + 1) m _ (by rw [z_pt_3 (by omega)]; exact hm) h5 (by omega) (by omega), z_cp_pt]
      congr 3
      funext j
      simp only [z_pt_f]
      rcases Nat.lt_trichotomy j i with h | h | h
      · rw [if_neg (by omega), if_neg (by omega), if_neg (by omega)]
      · subst h
        rw [if_neg (by omega), if_pos (by simp), if_pos (by omega)]
      · by_cases hj : j < m
        · rw [if_pos (by omega), if_neg (by omega), if_pos (by omega)]
        · rw [if_neg (by omega), if_neg (by omega), if_neg (by omega)]
/-- what a marsh is when one leaves, comes, two change -/
def aLeave (a : aS) (i : Nat) : aS := (an a, (ar a).eraseIdx i, ak a, am a, as_ a, ah a, ac a, au a)
def aEnter (a : aS) (p i : Nat) : aS := (an a, (ar a).insertIdx i p, ak a, am a, as_ a, ah a, ac a, au a)
theorem c_leave {σ : z_Mem} {c i : Nat} {a : aS} (h : cM σ c a) (hw : aW a) (hi : i < (ar a).length) : ∃ σ', fX0_leave c (nI i) σ = some ((), σ') ∧ cM σ' c (aLeave a i) ∧ cK (fun k => k = c ∨ k = c + 4) σ σ' := by
  have h6 := aW_len hw
  have h0 : ¬ (nI i : Int32) < 0 := nI_pos (by omega)
  unfold fX0_leave
  rw [h.2.1, if_neg h0, if_neg (nI_ge hi (by omega)), if_pos (by rw [show (6 : Int32) = nI 6 by decide]; exact nI_le h6 (by decide))]
  have e1 : nI (ar a).length - (1 : Int32) = nI ((ar a).length - 1) := by
    rw [show (1 : Int32) = nI 1 by decide]; exact pk_sub (by omega)
  rw [e1]
  simp only [z_st]
  rw [c_leave_loop z_FU i ((ar a).length - 1) _ z_pt_1 (by omega) (by omega) (by simp only [z_FU]; omega)]
  refine ⟨_, rfl, ⟨?_, ?_, ?_, ?_, ?_, ?_, ?_⟩, ?_⟩
  · simp only [z_cp_f, z_pt_f]; rw [if_neg (by omega), if_neg (by omega)]; exact h.1
  · simp only [z_cp_f, z_pt_f]; rw [if_neg (by omega), if_pos (by simp)]; simp only [aLeave]; rw [List.length_eraseIdx, if_pos hi]
  · simp only [z_cp_f, z_pt_f]; rw [if_neg (by omega), if_neg (by omega)]; exact h.2.2.1
  · simp only [z_cp_f, z_pt_f]; rw [if_neg (by omega), if_neg (by omega)]; exact h.2.2.2.1
  · simp only [z_cp_f, z_pt_f]; rw [if_neg (by omega), if_neg (by omega)]; exact h.2.2.2.2.1
  · intro j hj
    simp only [z_cp, z_pt, va_up]
    rw [if_neg (by omega), if_neg (by omega), if_neg (by omega), if_neg (by omega), if_neg (by omega), if_neg (by omega)]
    exact h.2.2.2.2.2.1 j hj
  · intro j hj
    have hj2 : j < (ar a).length - 1 := by
      have := hj
      simp only [aLeave] at this
      rwa [List.length_eraseIdx, if_pos hi] at this
    simp only [z_cp, va_up]
    rw [if_pos trivial]
    have hr := h.2.2.2.2.2.2
    have e2 : ∀ q, (z_pt σ c 6 (nI ((ar a).length - 1))).1 (c + 4) q = σ.1 (c + 4) q := fun q => z_pt_3 (by omega)
    simp only [e2]
    have e3 : ((aLeave a i).2.1).getD j 0 = if i ≤ j then (ar a).getD (j + 1) 0 else (ar a).getD j 0 := by
      simp only [aLeave, List.getD, List.getElem?_eraseIdx]
      by_cases q : j < i
      · rw [if_pos q, if_neg (by omega)]
      · rw [if_neg q, if_pos (by omega)]
    show _ = nI (((aLeave a i).2.1).getD j 0)
    rw [e3]
    by_cases q : i ≤ j
    · rw [if_pos ⟨q, hj2⟩, if_pos q]; exact hr _ (by omega)
    · rw [if_neg (by omega), if_neg q]; exact hr _ (by omega)
  · intro k hk
    simp only [not_or] at hk
    funext q
    simp only [z_cp, z_pt, va_up]
    rw [if_neg hk.2, if_neg hk.1]
theorem c_enter_loop {c p w : Nat} : ∀ (q i : Nat) (σ : z_Mem), w ≤ i → i ≤ 5 → i - w < q → fX0_enter_27 c q (nI p) (nI w) (nI i) σ = some ((), z_pt (z_cp σ (c + 4) (fun j => if j = w then nI p else if w < j ∧ j ≤ i then σ.1 (c + 4) (j - 1) else σ.1 (c + 4) j)) c 6 (σ.1 c 6 + 1))
  | 0, i, σ, _, _, h => absurd h (Nat.not_lt_zero _)
  | q + 1, i, σ, hi, h5, hq => by
    rw [fX0_enter_27]
    by_cases hl : i = w
    · subst hl
      rw [if_pos (nI_le (Nat.le_refl _) (by omega)), z_gdT (z_inN (by omega) (by decide)), z_xN (by omega)]
      simp only [z_st]
      have e : (z_pt σ (c + 4) i (nI p)) = (z_cp σ (c + 4) (fun j => if j = i then nI p else if i < j ∧ j ≤ i then σ.1 (c + 4) (j - 1) else σ.1 (c + 4) j)) := by
        unfold z_cp z_pt
        congr 2
        funext j
        simp only [upd]
        by_cases hj : j = i
        · rw [if_pos hj, if_pos hj]
        · rw [if_neg hj, if_neg hj, if_neg (by omega)]
      rw [z_pt_3 (show c ≠ c + 4 by omega), e]
    · have hi' : w < i := by omega
      have e1 : nI i - (1 : Int32) = nI (i - 1) := by
        rw [show (1 : Int32) = nI 1 by decide]; exact pk_sub (by omega)
      have e2 : nI i + (-1 : Int32) = nI (i - 1) := sb_m1 (by omega)
      rw [if_neg (nI_ge hi' (by omega)), e1, z_gdT (z_inN (by omega) (by decide)), z_gdT (z_inN (by omega) (by decide)), z_xN (by omega), z_xN (by omega), e2]
      simp only [z_st]
      rw [c_enter_loop q (i - 1) _ (by omega) (by omega) (by omega), z_cp_pt, z_pt_3 (show c ≠ c + 4 by omega)]
      congr 4
      funext j
      simp only [z_pt_f]
      by_cases h1 : j = w
      · rw [if_pos h1, if_pos h1]
      · rw [if_neg h1, if_neg h1]
        by_cases h2 : w < j ∧ j ≤ i
        · rw [if_pos h2]
          by_cases h3 : j = i
          · subst h3; rw [if_neg (by omega), if_pos (by simp)]
          · rw [if_pos (by omega), if_neg (by omega)]
        · rw [if_neg h2, if_neg (by omega), if_neg (by omega)]
theorem c_enter {σ : z_Mem} {c p i : Nat} {a : aS} (h : cM σ c a) (hw : (ar a).length < 6) (hi : i ≤ (ar a).length) : ∃ σ', fX0_enter c (nI p) (nI i) σ = some ((), σ') ∧ cM σ' c (aEnter a p i) ∧ cK (fun k => k = c ∨ k = c + 4) σ σ' := by
  unfold fX0_enter
  rw [h.2.1, if_neg (nI_pos (by omega)), if_neg (nI_nlt hi (by omega)), if_pos (by rw [show (6 : Int32) = nI 6 by decide]; exact nI_lt hw (by decide))]
  rw [c_enter_loop z_FU (ar a).length σ hi (by omega) (by simp only [z_FU]; omega)]
  refine ⟨_, rfl, ⟨?_, ?_, ?_, ?_, ?_, ?_, ?_⟩, ?_⟩
  · simp only [z_pt_f]; rw [if_neg (by omega)]; simp only [z_cp, va_up]; rw [if_neg (by omega)]; exact h.1
  · simp only [z_pt_f]; rw [if_pos (by simp), h.2.1, nI_1]; simp only [aEnter]; rw [List.length_insertIdx, if_pos hi]
  · simp only [z_pt_f]; rw [if_neg (by omega)]; simp only [z_cp, va_up]; rw [if_neg (by omega)]; exact h.2.2.1
  · simp only [z_pt_f]; rw [if_neg (by omega)]; simp only [z_cp, va_up]; rw [if_neg (by omega)]; exact h.2.2.2.1
  · simp only [z_pt_f]; rw [if_neg (by omega)]; simp only [z_cp, va_up]; rw [if_neg (by omega)]; exact h.2.2.2.2.1
  · intro j hj
    simp only [z_pt_f]
    rw [if_neg (by omega), if_neg (by omega), if_neg (by omega)]
    simp only [z_cp, va_up]
    rw [if_neg (by omega), if_neg (by omega), if_neg (by omega)]
    exact h.2.2.2.2.2.1 j hj
  · intro j hj
    have hj2 : j < (ar a).length + 1 := by
      have := hj
      simp only [aEnter] at this
      rwa [List.length_insertIdx, if_pos hi] at this
    simp only [z_pt_f]
    rw [if_neg (by omega)]
    simp only [z_cp, va_up]
    rw [if_pos trivial]
    have hr := h.2.2.2.2.2.2
    have e3 : ((aEnter a p i).2.1).getD j 0 = if j = i then p else if i < j then (ar a).getD (j - 1) 0 else (ar a).getD j 0 := by
      simp only [aEnter, List.getD, List.getElem?_insertIdx]
      by_cases q : j < i
      · rw [if_pos q, if_neg (by omega), if_neg (by omega)]
      · rw [if_neg q]
        by_cases q2 : j = i
        · rw [if_pos q2, if_pos q2, if_pos (by omega)]; rfl
        · rw [if_neg q2, if_neg q2, if_pos (by omega)]
    show _ = nI (((aEnter a p i).2.1).getD j 0)
    rw [e3]
    by_cases q : j = i
    · rw [if_pos q, if_pos q]
    · rw [if_neg q, if_neg q]
      by_cases q2 : i < j
      · rw [if_pos ⟨q2, by omega⟩, if_pos q2]; exact hr _ (by omega)
      · rw [if_neg (by omega), if_neg q2]; exact hr _ (by omega)
  · intro k hk
    simp only [not_or] at hk
    rw [z_pt_r hk.1]
    simp only [z_cp, va_up]
    rw [if_neg hk.2]
