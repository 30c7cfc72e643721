/-! orders: the table of holds, the ring in thought -/
abbrev aRing (a : aS) (r : List Nat) : aS := (an a, r, ak a, am a, as_ a, ah a, ac a, au a)
theorem aRing_ar {a : aS} : aRing a (ar a) = a := rfl
/-- r is an order of those who stand there -/
def oR (a : aS) (r : List Nat) : Prop := r.Perm (ar a)
theorem oR_rf {a : aS} : oR a (ar a) := List.Perm.refl _
theorem oR_len {a : aS} {r : List Nat} (h : oR a r) : r.length = (ar a).length := h.length_eq
theorem oR_W {a : aS} {r : List Nat} (h : oR a r) (hw : aW a) : aW (aRing a r) := by
  obtain ⟨h1, h2, h3, h4, h5⟩ := hw
  exact ⟨h1, h.nodup_iff.mpr h2, fun q hq => h3 q (h.mem_iff.mp hq), Nat.le_trans (Nat.le_of_eq h.length_eq) h4, h5⟩
theorem aEnv_ring {a : aS} {r : List Nat} (h : oR a r) {p : Nat} {o : Option Nat} : aEnv (aRing a r) p o = aEnv a p o := by
  funext k
  unfold aEnv aNx
  rw [show (ar (aRing a r)).length = (ar a).length from oR_len h]
theorem gGrip_ring {a : aS} {r : List Nat} {tv : zTV} (h : oR a r) {p q : Nat} : gGrip tv (aRing a r) p q = gGrip tv a p q := by
  unfold gGrip gBr
  rw [aEnv_ring h]
theorem gHold_ring {a : aS} {r : List Nat} {tv : zTV} (h : oR a r) {p q : Nat} : gHold tv (aRing a r) p q = gHold tv a p q := by
  unfold gHold
  rw [gGrip_ring h, gGrip_ring h]
theorem z_mn_comm {x y : Int32} : z_mn x y = z_mn y x := by
  unfold z_mn
  by_cases h : y < x
  · rw [if_pos h, if_neg (fun q => Int32.lt_irrefl (Int32.lt_trans h q))]
  · rw [if_neg h]
    by_cases h2 : x < y
    · rw [if_pos h2]
    · rw [if_neg h2]; exact Int32.le_antisymm (Int32.not_lt.mp h) (Int32.not_lt.mp h2)
theorem gHold_comm {a : aS} {tv : zTV} {p q : Nat} : gHold tv a p q = gHold tv a q p := z_mn_comm
/-- the class's Orders: standing, ring, hardness -/
def cO (σ : z_Mem) (tv : zTV) (a : aS) (r : List Nat) : Prop := σ.1 22 4 = nI r.length ∧ (∀ i, i < r.length → σ.1 24 i = nI (r.getD i 0)) ∧ ∀ p q, p < an a → q < an a → q ≠ p → σ.1 23 (6 * p + q) = gHold tv a p q
theorem cO_kept {S : Nat → Prop} {σ σ' : z_Mem} {tv : zTV} {a : aS} {r : List Nat} (h : cO σ tv a r) (hk : cK S σ σ') (h1 : ¬ S 22) (h2 : ¬ S 23) (h3 : ¬ S 24) : cO σ' tv a r := by
  unfold cO
  rw [hk 22 h1, hk 23 h2, hk 24 h3]
  exact h
theorem c_hasF {σ : z_Mem} {c p : Nat} {a : aS} (h : cM σ c a) (hw : aW a) (hp : ¬ p < an a) (h6 : p < 6) : fX0_has c (nI p) σ = some (0, σ) := by
  rw [c_has h hw, nI_toInt (by omega), if_neg (by omega)]
theorem c_gripAny {σ : z_Mem} {p q n : Nat} {a : aS} {tv : zTV} (h : cM σ 7 a) (hw : aW a) (hT : cT σ tv n) (hr : au a < n) (hp : p < 6) (hq : q < 6) : z_R (fX0_gripOf 7 (nI p) (nI q) σ) (fun r σ' => (p < an a → q < an a → r = gGrip tv a p q) ∧ cK (fun k => k = 4) σ σ') := by
  by_cases h1 : p < an a
  · by_cases h2 : q < an a
    · exact z_R_mono (c_gripOf h hw hT hr (by decide) h1 h2) (fun r s q => ⟨fun _ _ => q.1, q.2⟩)
    · unfold fX0_gripOf
      refine z_R_bdE (c_hasN h hw h1) ?_
      rw [if_neg z_10]
      refine z_R_bdE (c_hasF h hw h2 hq) ?_
      rw [if_pos rfl]
      exact z_R_some ⟨fun _ h => absurd h h2, cK_rf⟩
  · unfold fX0_gripOf
    refine z_R_bdE (c_hasF h hw h1 hp) ?_
    rw [if_pos rfl]
    exact z_R_some ⟨fun h _ => absurd h h1, cK_rf⟩
theorem m6 {i j : Nat} : nI i * (6 : Int32) + nI j = nI (6 * i + j) := by
  rw [show (6 : Int32) = nI 6 by decide, pk_mul, nI_add, Nat.mul_comm]
/-- the table is told for pairs below (o, j) -/
def oTab (σ : z_Mem) (tv : zTV) (a : aS) (o j : Nat) : Prop := ∀ p q, p < an a → q < p → (p < o ∨ p = o ∧ q < j) → σ.1 23 (6 * p + q) = gHold tv a p q ∧ σ.1 23 (6 * q + p) = gHold tv a p q
theorem c_look_in {n o : Nat} {a : aS} {tv : zTV} {K : Int32 → z_Mem → Option (Unit × z_Mem)} {P : Unit → z_Mem → Prop} (hw : aW a) (hr : au a < n) (ho : o < 6) : ∀ (m q j : Nat) (σ : z_Mem), cM σ 7 a → cT σ tv n → oTab σ tv a o j → (∀ σ', cK (fun k => k = 4 ∨ k = 23) σ σ' → oTab σ' tv a (o + 1) 0 → z_R (K (nI o) σ') P) → j + m = o → m < q → z_R (fX1_look_53 7 K q (nI o) (nI j) σ) P
  | m, 0, j, σ, _, _, _, _, _, h => absurd h (Nat.not_lt_zero _)
  | 0, q + 1, j, σ, h, hT, ht, hK, hj, hq => by
    rw [fX1_look_53, if_pos (nI_le (by omega) (by omega))]
    exact hK σ cK_rf (fun p q hp hq h => ht p q hp hq (by omega))
  | m + 1, q + 1, j, σ, h, hT, ht, hK, hj, hq => by
    have h6 := hw.1
    rw [fX1_look_53, if_neg (nI_ge (by omega) (by omega))]
    refine z_R_bd (c_gripAny h hw hT hr ho (show j < 6 by omega)) (fun v s hv => ?_)
    have hs := cM_k4 h hv.2 (by decide)
    have hTs := cT_kept hT hv.2 (by decide) (by decide) (by decide)
    refine z_R_bd (c_gripAny hs hw hTs hr (show j < 6 by omega) ho) (fun v2 s2 hv2 => ?_)
    have hs2 := cM_k4 hs hv2.2 (by decide)
    have hTs2 := cT_kept hTs hv2.2 (by decide) (by decide) (by decide)
    rw [m6, m6, z_gdT (z_inN (by omega) (by decide)), z_stE, z_gdT (z_inN (by omega) (by decide)), z_stE, z_xN (by omega), z_xN (by omega), nI_1]
    have hk2 : cK (fun k => k = 4 ∨ k = 23) σ (z_pt (z_pt s2 23 (6 * o + j) (z_mn v v2)) 23 (6 * j + o) (z_mn v v2)) := fun k hk => by
      simp only [not_or] at hk
      rw [z_pt_r hk.2, z_pt_r hk.2, hv2.2 k hk.1, hv.2 k hk.1]
    refine c_look_in hw hr ho m q (j + 1) _ (cM_kept h hk2 (fun i hi => by omega)) (cT_kept hT hk2 (by omega) (by omega) (by omega)) ?_ (fun σ' q1 q2 => hK σ' (cK_tr hk2 q1) q2) (by omega) (by omega)
    intro p q' hp hq' hpq
    by_cases e : p = o ∧ q' = j
    · obtain ⟨e1, e2⟩ := e
      subst e1; subst e2
      have ev : z_mn v v2 = gHold tv a p q' := by
        rw [hv.1 hp (by omega), hv2.1 (by omega) hp]
        rfl
      refine ⟨?_, ?_⟩
      · rw [z_pt_2 (by omega), z_pt_1, ev]
      · rw [z_pt_1, ev]
    · have := ht p q' hp hq' (by omega)
      have e23 : s2.1 23 = σ.1 23 := by rw [hv2.2 23 (by decide), hv.2 23 (by decide)]
      refine ⟨?_, ?_⟩
      · rw [z_pt_2 (by omega), z_pt_2 (by omega), e23]; exact this.1
      · rw [z_pt_2 (by omega), z_pt_2 (by omega), e23]; exact this.2
theorem c_look_out {n : Nat} {a : aS} {tv : zTV} (hw : aW a) (hr : au a < n) : ∀ (m q o : Nat) (σ : z_Mem), cM σ 7 a → cT σ tv n → oTab σ tv a o 0 → o + m = 6 → m < q → z_R (fX1_look_45 7 q (nI o) σ) (fun _ σ' => oTab σ' tv a 6 0 ∧ cK (fun k => k = 4 ∨ k = 23) σ σ')
  | m, 0, o, σ, _, _, _, _, h => absurd h (Nat.not_lt_zero _)
  | 0, q + 1, o, σ, h, hT, ht, ho, hq => by
    have : o = 6 := by omega
    subst this
    rw [fX1_look_45, if_pos (by decide)]
    exact z_R_some ⟨ht, cK_rf⟩
  | m + 1, q + 1, o, σ, h, hT, ht, ho, hq => by
    rw [fX1_look_45, if_neg (z_nle 6 6 (by decide) (by omega) (by decide))]
    have := c_look_in (tv := tv) (P := fun _ σ' => oTab σ' tv a 6 0 ∧ cK (fun k => k = 4 ∨ k = 23) σ σ') (K := fun l2 σ => fX1_look_45 7 q (l2 + 1) σ) hw hr (show o < 6 by omega) o z_FU 0 σ h hT ht (fun σ' q1 q2 => by
      rw [nI_1]
      exact z_R_mono (c_look_out hw hr m q (o + 1) σ' (cM_kept h q1 (fun i hi => by omega)) (cT_kept hT q1 (by omega) (by omega) (by omega)) q2 (by omega) (by omega)) (fun r s hh => ⟨hh.1, cK_tr q1 hh.2⟩)) (by omega) (by simp only [z_FU]; omega)
    rw [nI_0] at this
    exact this
/-- what look leaves -/
def cO1 (σ : z_Mem) (a : aS) : Prop := ∀ i, i < (ar a).length → σ.1 25 i = nI ((ar a).getD i 0)
theorem c_look {n : Nat} {a : aS} {tv : zTV} {σ : z_Mem} (hw : aW a) (hr : au a < n) (h : cM σ 7 a) (hT : cT σ tv n) : z_R (fX1_look 7 σ) (fun _ σ' => cO σ' tv a (ar a) ∧ cO1 σ' a ∧ cK zScr σ σ') := by
  have h6 := aW_len hw
  have h66 := hw.1
  unfold fX1_look
  have em : z_mn (σ.1 7 6) 6 = nI (ar a).length := by
    rw [h.2.1]
    unfold z_mn
    rw [if_neg (by rw [show (6 : Int32) = nI 6 by decide]; exact nI_nlt h6 (by decide))]
  rw [em, z_stE, z_gdT z_cpOk6, z_stE, z_gdT z_cpOk6, z_stE, z_x0, z_x6]
  generalize hs : z_ac (z_ac (z_pt σ 22 4 (nI (ar a).length)) (7 + 4) 25 0 0 6) (7 + 4) 24 0 0 6 = s
  have hk : cK (fun k => k = 22 ∨ k = 24 ∨ k = 25) σ s := fun k hk => by
    rw [← hs, z_ac_r (by omega), z_ac_r (by omega), z_pt_r (by omega)]
  have e22 : s.1 22 4 = nI (ar a).length := by rw [← hs, z_ac_r (by omega), z_ac_r (by omega), z_pt_1]
  have e25 : ∀ i, i < 6 → s.1 25 i = σ.1 11 i := fun i hi => by
    rw [← hs, z_ac_r (by omega), z_ac_f, if_pos rfl, if_pos (by omega), z_pt_3 (by omega), show 0 + (i - 0) = i by omega]
  have e24 : ∀ i, i < 6 → s.1 24 i = σ.1 11 i := fun i hi => by
    rw [← hs, z_ac_f, if_pos rfl, if_pos (by omega), z_ac_r (by omega), z_pt_3 (by omega), show 0 + (i - 0) = i by omega]
  have L := c_look_out (tv := tv) hw hr 6 z_FU 0 s (cM_kept h hk (fun i hi => by omega)) (cT_kept hT hk (by omega) (by omega) (by omega)) (fun p q hp hq h => by omega) (by omega) (by simp only [z_FU]; omega)
  rw [nI_0] at L
  refine z_R_mono L (fun r s' hh => ⟨⟨?_, fun i hi => ?_, fun p q hp hq hne => ?_⟩, fun i hi => ?_, fun k hk' => ?_⟩)
  · rw [hh.2 22 (by omega)]; exact e22
  · rw [hh.2 24 (by omega), e24 i (by omega)]; exact h.2.2.2.2.2.2 i hi
  · by_cases e : q < p
    · exact (hh.1 p q hp e (by omega)).1
    · rw [gHold_comm]
      exact (hh.1 q p hq (by omega) (by omega)).2
  · rw [hh.2 25 (by omega), e25 i (by omega)]; exact h.2.2.2.2.2.2 i hi
  · unfold zScr at hk'
    rw [hh.2 k (by omega), hk k (by omega)]
theorem c_between {σ : z_Mem} {tv : zTV} {a : aS} {r : List Nat} {p q : Nat} (h : cO σ tv a r) (hw : aW a) (hp : p < an a) (hq : q < an a) (hne : q ≠ p) : fX1_between (nI p) (nI q) σ = some (gHold tv a p q, σ) := by
  have h6 := hw.1
  unfold fX1_between
  rw [if_neg (nI_pos (by omega)), if_neg (z_nle 6 6 (by decide) (by omega) (by decide)), if_neg (nI_pos (by omega)), if_neg (z_nle 6 6 (by decide) (by omega) (by decide)), m6, z_gdT (z_inN (by omega) (by decide)), z_xN (by omega), h.2.2 p q hp hq hne]
/-- v is the least of f below n -/
def oMin (v : Int32) (f : Nat → Int32) (n : Nat) : Prop := (∃ i, i < n ∧ v = f i) ∧ ∀ i, i < n → v ≤ f i
theorem oMin_eq {v w : Int32} {f : Nat → Int32} {n : Nat} (h : oMin v f n) (h' : oMin w f n) : v = w := by
  obtain ⟨⟨i, hi, e⟩, h2⟩ := h
  obtain ⟨⟨j, hj, e'⟩, h2'⟩ := h'
  apply Int32.le_antisymm
  · rw [e']; exact h2 j hj
  · rw [e]; exact h2' i hi
theorem zWk_spec {f : Nat → Int32} : ∀ (m i : Nat) (l : Int32), ¬ l = -1 → (∀ j, i ≤ j → j < i + m → ¬ f j = -1) → (zWk f m i l = l ∨ ∃ j, i ≤ j ∧ j < i + m ∧ zWk f m i l = f j) ∧ zWk f m i l ≤ l ∧ ∀ j, i ≤ j → j < i + m → zWk f m i l ≤ f j
  | 0, i, l, hl, hf => ⟨Or.inl rfl, Int32.le_refl _, fun j h1 h2 => by omega⟩
  | m + 1, i, l, hl, hf => by
    rw [zWk, if_neg hl]
    by_cases c : l ≤ f i
    · rw [if_pos c]
      obtain ⟨h1, h2, h3⟩ := zWk_spec m (i + 1) l hl (fun j a b => hf j (by omega) (by omega))
      refine ⟨?_, h2, fun j a b => ?_⟩
      · rcases h1 with h | ⟨j, a, b, e⟩
        · exact Or.inl h
        · exact Or.inr ⟨j, by omega, by omega, e⟩
      · by_cases e : j = i
        · rw [e]; exact Int32.le_trans h2 c
        · exact h3 j (by omega) (by omega)
    · rw [if_neg c]
      obtain ⟨h1, h2, h3⟩ := zWk_spec m (i + 1) (f i) (hf i (by omega) (by omega)) (fun j a b => hf j (by omega) (by omega))
      refine ⟨?_, Int32.le_trans h2 (Int32.le_of_lt (Int32.not_le.mp c)), fun j a b => ?_⟩
      · rcases h1 with h | ⟨j, a, b, e⟩
        · exact Or.inr ⟨i, by omega, by omega, h⟩
        · exact Or.inr ⟨j, by omega, by omega, e⟩
      · by_cases e : j = i
        · rw [e]; exact h2
        · exact h3 j (by omega) (by omega)
theorem zWk_min {f : Nat → Int32} {n : Nat} (h0 : 0 < n) (hf : ∀ j, j < n → ¬ f j = -1) : oMin (zWk f n 0 (-1)) f n := by
  match n, h0 with
  | n + 1, _ =>
    rw [zWk, if_pos rfl]
    obtain ⟨h1, h2, h3⟩ := zWk_spec (f := f) n 1 (f 0) (hf 0 (by omega)) (fun j a b => hf j (by omega))
    refine ⟨?_, fun j hj => ?_⟩
    · rcases h1 with h | ⟨j, a, b, e⟩
      · exact ⟨0, by omega, h⟩
      · exact ⟨j, by omega, e⟩
    · by_cases e : j = 0
      · rw [e]; exact h2
      · exact h3 j (by omega) (by omega)
theorem z_mn_l {x y : Int32} : z_mn x y ≤ x := by
  unfold z_mn
  split
  · rename_i h; exact Int32.le_of_lt h
  · exact Int32.le_refl _
theorem z_mn_r {x y : Int32} : z_mn x y ≤ y := by rw [z_mn_comm]; exact z_mn_l
theorem z_mn_or {x y : Int32} : z_mn x y = x ∨ z_mn x y = y := by
  unfold z_mn
  split
  · exact Or.inr rfl
  · exact Or.inl rfl
theorem gH_ne {tv : zTV} {a : aS} {i : Nat} (hw : aW a) (hi : i < (ar a).length) : ¬ gH tv a i = -1 := fun e => by
  have := gH_in (tv := tv) hw hi
  rw [e] at this
  exact absurd this.1 (by decide)
theorem gH_aring {tv : zTV} {a : aS} {r : List Nat} {i : Nat} (h : oR a r) : gH tv (aRing a r) i = gHold tv a (r.getD i 0) (r.getD ((i + 1) % r.length) 0) := by
  unfold gH
  rw [gHold_ring h]
theorem oR_ne {a : aS} {r : List Nat} (h : oR a r) (hw : aW a) {i j : Nat} (hi : i < r.length) (hj : j < r.length) (hij : i ≠ j) : r.getD i 0 ≠ r.getD j 0 := by
  have hn : r.Nodup := h.nodup_iff.mpr hw.2.1
  rw [z_getD hi, z_getD hj]
  intro e
  rcases Nat.lt_or_gt_of_ne hij with q | q
  · exact (List.pairwise_iff_getElem.mp hn) i j hi hj q e
  · exact (List.pairwise_iff_getElem.mp hn) j i hj hi q e.symm
theorem c_wn_loop {σ : z_Mem} {tv : zTV} {a : aS} {r : List Nat} (h : cO σ tv a r) (hr : oR a r) (hw : aW a) : ∀ (m q i : Nat) (l : Int32), i + 1 + m = r.length → m < q → ∃ v, fX1_weakestNow_34 q l (nI (i + 1)) σ = some (v, σ) ∧ (v = l ∨ ∃ j, i ≤ j ∧ j < i + m ∧ v = gH tv (aRing a r) j) ∧ v ≤ l ∧ ∀ j, i ≤ j → j < i + m → v ≤ gH tv (aRing a r) j
  | m, 0, i, l, _, h => absurd h (Nat.not_lt_zero _)
  | 0, q + 1, i, l, hi, hq => by
    have h6 := aW_len (oR_W hr hw)
    have h6' : r.length ≤ 6 := h6
    rw [fX1_weakestNow_34, h.1, if_pos (nI_le (by omega) (by omega))]
    exact ⟨l, rfl, Or.inl rfl, Int32.le_refl _, fun j a b => by omega⟩
  | m + 1, q + 1, i, l, hi, hq => by
    have h6 := aW_len (oR_W hr hw)
    have h6' : r.length ≤ 6 := h6
    have hlt : ∀ i, i < r.length → r.getD i 0 < an a := fun i hi => aR_lt (oR_W hr hw) hi
    rw [fX1_weakestNow_34, h.1, if_neg (nI_ge (by omega) (by omega)), nI_sub1, z_gdT (z_inN (by omega) (by decide)), z_gdT (z_inN (by omega) (by decide)), z_xN (by omega), z_xN (by omega), h.2.1 _ (by omega), h.2.1 _ (by omega), z_bdE (c_between h hw (hlt _ (by omega)) (hlt _ (by omega)) (oR_ne hr hw (by omega) (by omega) (by omega))), nI_1]
    have eg : gHold tv a (r.getD i 0) (r.getD (i + 1) 0) = gH tv (aRing a r) i := by
      rw [gH_aring hr, Nat.mod_eq_of_lt (by omega)]
    rw [eg]
    obtain ⟨v, e, h1, h2, h3⟩ := c_wn_loop h hr hw m q (i + 1) (z_mn l (gH tv (aRing a r) i)) (by omega) (by omega)
    refine ⟨v, e, ?_, Int32.le_trans h2 z_mn_l, fun j a b => ?_⟩
    · rcases h1 with q | ⟨j, a, b, e⟩
      · rcases z_mn_or (x := l) (y := gH tv (aRing a r) i) with e | e
        · exact Or.inl (q.trans e)
        · exact Or.inr ⟨i, by omega, by omega, q.trans e⟩
      · exact Or.inr ⟨j, by omega, by omega, e⟩
    · by_cases e : j = i
      · rw [e]; exact Int32.le_trans h2 z_mn_r
      · exact h3 j (by omega) (by omega)
theorem c_weakestNow {σ : z_Mem} {tv : zTV} {a : aS} {r : List Nat} (h : cO σ tv a r) (hr : oR a r) (hw : aW a) : fX1_weakestNow σ = some (gWeak tv (aRing a r), σ) := by
  have hW := oR_W hr hw
  have h6 := aW_len hW
  have h6' : r.length ≤ 6 := h6
  have hlt : ∀ i, i < r.length → r.getD i 0 < an a := fun i hi => aR_lt hW hi
  unfold fX1_weakestNow
  rw [h.1]
  by_cases l2 : 2 ≤ r.length
  · have hN : aN (aRing a r) = r.length := if_neg (by show ¬ r.length < 2; omega)
    have e1 : nI r.length - (1 : Int32) = nI (r.length - 1) := by rw [show (1 : Int32) = nI 1 by decide]; exact pk_sub (by omega)
    rw [if_pos (z_2le l2 (by omega)), e1, z_gdT (z_inN (by omega) (by decide)), z_gdT (by decide), z_xN (by omega), z_x0, h.2.1 _ (by omega), h.2.1 0 (by omega), z_bdE (c_between h hw (hlt _ (by omega)) (hlt _ (by omega)) (oR_ne hr hw (by omega) (by omega) (by omega)))]
    obtain ⟨v, e, q1, q2, q3⟩ := c_wn_loop h hr hw (r.length - 1) z_FU 0 (gHold tv a (r.getD (r.length - 1) 0) (r.getD 0 0)) (by omega) (by simp only [z_FU]; omega)
    have e' : fX1_weakestNow_34 z_FU (gHold tv a (r.getD (r.length - 1) 0) (r.getD 0 0)) 1 σ = some (v, σ) := e
    rw [e']
    congr 2
    have eg : gHold tv a (r.getD (r.length - 1) 0) (r.getD 0 0) = gH tv (aRing a r) (r.length - 1) := by
      rw [gH_aring hr, show r.length - 1 + 1 = r.length by omega, Nat.mod_self]
    rw [eg] at q1 q2
    unfold gWeak
    rw [hN]
    refine oMin_eq (f := gH tv (aRing a r)) (n := r.length) ⟨?_, fun j hj => ?_⟩ (zWk_min (by omega) (fun j hj => gH_ne hW hj))
    · rcases q1 with q | ⟨j, a, b, e⟩
      · exact ⟨_, by omega, q⟩
      · exact ⟨j, by omega, e⟩
    · by_cases e : j = r.length - 1
      · rw [e]; exact q2
      · exact q3 j (by omega) (by omega)
  · have hN : aN (aRing a r) = 0 := if_pos (by show r.length < 2; omega)
    rw [if_neg (by rw [show (2 : Int32) = nI 2 by decide]; exact nI_ge (by omega) (by omega))]
    unfold gWeak
    rw [hN]
    rfl
