/-! by how few changes of places there is no gate -/
theorem zGt_zero {f : Nat → Int32} : ∀ (m i l : Nat), i + m < 100 → l + m < 100 → (zGt f m i (nI l) = nI l ↔ ∀ j, i ≤ j → j < i + m → ¬ f j = 0)
  | 0, i, l, _, _ => ⟨fun _ j a b => by omega, fun _ => rfl⟩
  | m + 1, i, l, hi, hl => by
    rw [zGt]
    by_cases e : f i = 0
    · rw [if_pos e, nI_1]
      obtain ⟨-, t, h1, h2, h3⟩ := z_first_gates (f := f) m (i + 1) (l + 1) (by omega) (by omega)
      refine ⟨fun h => ?_, fun h => absurd e (h i (by omega) (by omega))⟩
      rw [h3, z_eq_nI (by omega) (by omega)] at h
      omega
    · rw [if_neg e, zGt_zero m (i + 1) l (by omega) (by omega)]
      refine ⟨fun h j a b => ?_, fun h j a b => h j (by omega) (by omega)⟩
      by_cases q : j = i
      · rw [q]; exact e
      · exact h j (by omega) (by omega)
theorem gGates_0 {tv : zTV} {a : aS} (hw : aW a) : gGates tv a = 0 ↔ ∀ j, j < aN a → ¬ gH tv a j = 0 := by
  have := aN_le hw
  have h := zGt_zero (f := gH tv a) (aN a) 0 0 (by omega) (by omega)
  rw [nI_0] at h
  unfold gGates
  rw [h]
  exact ⟨fun h j hj => h j (by omega) (by omega), fun h j _ hj => h j (by omega)⟩
theorem gWeak_0 {tv : zTV} {a : aS} (hw : aW a) : gWeak tv a = 0 ↔ ¬ gGates tv a = 0 := by
  have hle := aN_le hw
  rw [gGates_0 hw]
  by_cases h0 : 0 < aN a
  · obtain ⟨⟨i, hi, e⟩, h2⟩ := zWk_min (f := gH tv a) h0 (fun j hj => gH_ne hw (by omega))
    constructor
    · intro h q
      have e' : gWeak tv a = gH tv a i := e
      exact q i hi (e'.symm.trans h)
    · intro h
      apply Classical.byContradiction
      intro hne
      apply h
      intro j hj e0
      have h3 := h2 j hj
      rw [e0] at h3
      have h4 := (gH_in (tv := tv) hw (show i < (ar a).length by omega)).1
      have e' : gWeak tv a = gH tv a i := e
      rw [← e'] at h4
      have h3' : gWeak tv a ≤ 0 := h3
      rw [Int32.le_iff_toInt_le, show (0 : Int32).toInt = 0 from rfl] at h3'
      exact hne (Int32.toInt_inj.mp (by rw [show (0 : Int32).toInt = 0 from rfl]; omega))
  · have e0 : aN a = 0 := by omega
    have e1 : gWeak tv a = -1 := by unfold gWeak; rw [e0]; rfl
    rw [e1]
    exact ⟨fun h => absurd h (by decide), fun h => absurd (fun j hj => by omega) h⟩
theorem oSw_get {r : List Nat} {i j k : Nat} (hi : i < r.length) (hj : j < r.length) : (oSw r i j).getD k 0 = if k = j then r.getD i 0 else if k = i then r.getD j 0 else r.getD k 0 := by
  rw [z_getD_set (by simpa using hj), z_getD_set hi]
theorem z_ext {l m : List Nat} (hl : l.length = m.length) (h : ∀ k, k < l.length → l.getD k 0 = m.getD k 0) : l = m := by
  apply List.ext_getElem hl
  intro k h1 h2
  have := h k h1
  rwa [z_getD h1, z_getD h2] at this
theorem oSw_oSw {r : List Nat} {i j : Nat} (hi : i < r.length) (hj : j < r.length) : oSw (oSw r i j) i j = r := by
  refine z_ext (by simp) (fun k hk => ?_)
  rw [oSw_get (by simpa using hi) (by simpa using hj), oSw_get hi hj, oSw_get hi hj, oSw_get hi hj]
  by_cases q1 : k = j
  · subst q1
    rw [if_pos rfl]
    by_cases q2 : i = k
    · subst q2; rw [if_pos rfl]
    · rw [if_neg q2, if_pos rfl]
  · rw [if_neg q1]
    by_cases q2 : k = i
    · subst q2
      rw [if_pos rfl, if_pos rfl]
    · rw [if_neg q2, if_neg q1, if_neg q2]
theorem oSw_comm {r : List Nat} {i j : Nat} (hi : i < r.length) (hj : j < r.length) : oSw r i j = oSw r j i := by
  refine z_ext (by simp) (fun k hk => ?_)
  rw [oSw_get hi hj, oSw_get hj hi]
  by_cases q1 : k = j
  · subst q1
    rw [if_pos rfl]
    by_cases q2 : k = i
    · subst q2; rw [if_pos rfl]
    · rw [if_neg q2, if_pos rfl]
  · rw [if_neg q1, if_neg q1]
def oShut (tv : zTV) (a : aS) : Nat → List Nat → Prop
  | 0, r => gGates tv (aRing a r) = 0
  | n + 1, r => ∃ i j, i < r.length ∧ j < i ∧ oShut tv a n (oSw r i j)
/-- a truth as an int -/
def zTf (b : Int32) (P : Prop) : Prop := b = 1 ∧ P ∨ b = 0 ∧ ¬ P
theorem zTf_iff {b : Int32} {P Q : Prop} (h : zTf b P) (e : P ↔ Q) : zTf b Q := h.elim (fun q => Or.inl ⟨q.1, e.mp q.2⟩) (fun q => Or.inr ⟨q.1, fun x => q.2 (e.mpr x)⟩)
theorem zTf_bool {b : Int32} {P : Prop} (h : zTf b P) : z_bool b := h.elim (fun q => Or.inr q.1) (fun q => Or.inl q.1)
/-- what closesBy must do, n changes left -/
def cSh (tv : zTV) (a : aS) (G : Int32 → z_Mem → Option (Int32 × z_Mem)) (n : Nat) : Prop := ∀ (σ : z_Mem) (r : List Nat), cO σ tv a r → oR a r → z_R (G (nI n) σ) (fun b σ' => zTf b (oShut tv a n r) ∧ cO σ' tv a r ∧ cK (fun k => k = 24) σ σ')
theorem c_cl_in {tv : zTV} {a : aS} {G : Int32 → z_Mem → Option (Int32 × z_Mem)} {n i : Nat} {r : List Nat} {K : Int32 → Int32 → Int32 → z_Mem → Option (Int32 × z_Mem)} {P : Int32 → z_Mem → Prop} (hw : aW a) (hr : oR a r) (hG : cSh tv a G n) (hi : i < r.length) : ∀ (m q j : Nat) (c : Int32) (σ : z_Mem), cO σ tv a r → z_bool c → (∀ (b : Int32) (σ' : z_Mem), zTf b (c = 1 ∨ ∃ j', j ≤ j' ∧ j' < i ∧ oShut tv a n (oSw r i j')) → cO σ' tv a r → cK (fun k => k = 24) σ σ' → z_R (K (nI (n + 1)) b (nI i) σ') P) → j + m = i → m < q → z_R (fX1_closesBy_36 G K q (nI (n + 1)) c (nI i) (nI j) σ) P
  | m, 0, j, c, σ, _, _, _, _, h => absurd h (Nat.not_lt_zero _)
  | 0, q + 1, j, c, σ, h, hc, hK, hj, hq => by
    have h6 : r.length ≤ 6 := aW_len (oR_W hr hw)
    rw [fX1_closesBy_36, if_pos (nI_le (by omega) (by omega))]
    refine hK c σ ?_ h cK_rf
    rcases hc with rfl | rfl
    · refine Or.inr ⟨rfl, fun q => ?_⟩
      rcases q with q | ⟨j', a, b, _⟩
      · exact absurd q (by decide)
      · omega
    · exact Or.inl ⟨rfl, Or.inl rfl⟩
  | m + 1, q + 1, j, c, σ, h, hc, hK, hj, hq => by
    have h6 : r.length ≤ 6 := aW_len (oR_W hr hw)
    have hjr : j < r.length := by omega
    rw [fX1_closesBy_36, if_neg (nI_ge (by omega) (by omega))]
    rcases hc with rfl | rfl
    · rw [if_pos rfl, nI_sub1]
      obtain ⟨s1, e1, c1, k1⟩ := c_oChN h h6 hi hjr
      obtain ⟨b, s2, e2, t2, c2, k2⟩ := hG s1 (oSw r i j) c1 (oSw_R hr hi hjr)
      obtain ⟨s3, e3, c3, k3⟩ := c_oChN c2 (by simpa using h6) (show i < (oSw r i j).length by simpa using hi) (show j < (oSw r i j).length by simpa using hjr)
      rw [oSw_oSw hi hjr] at c3
      rw [z_bdE e1, z_bdE e2, z_bdE e3, nI_1]
      refine c_cl_in hw hr hG hi m q (j + 1) b s3 c3 (zTf_bool t2) (fun b' σ' tb cb kb => hK b' σ' (zTf_iff tb ⟨fun hh => ?_, fun hh => ?_⟩) cb (cK_tr (cK_tr (cK_tr k1 k2) k3) kb)) (by omega) (by omega)
      · rcases hh with e | ⟨j', x1, x2, x3⟩
        · rcases t2 with ⟨_, t⟩ | ⟨t0, _⟩
          · exact Or.inr ⟨j, by omega, by omega, t⟩
          · rw [t0] at e; exact absurd e (by decide)
        · exact Or.inr ⟨j', by omega, x2, x3⟩
      · rcases hh with e | ⟨j', x1, x2, x3⟩
        · exact absurd e (by decide)
        · by_cases ej : j' = j
          · subst ej
            rcases t2 with ⟨t1, _⟩ | ⟨_, t⟩
            · exact Or.inl t1
            · exact absurd x3 t
          · exact Or.inr ⟨j', by omega, x2, x3⟩
    · rw [if_neg z_10]
      exact hK 1 σ (Or.inl ⟨rfl, Or.inl rfl⟩) h cK_rf
theorem c_cl_out {tv : zTV} {a : aS} {G : Int32 → z_Mem → Option (Int32 × z_Mem)} {n : Nat} {r : List Nat} (hw : aW a) (hr : oR a r) (hG : cSh tv a G n) : ∀ (m q i : Nat) (c : Int32) (σ : z_Mem), cO σ tv a r → z_bool c → i + m = r.length → m < q → z_R (fX1_closesBy_21 G q (nI (n + 1)) c (nI i) σ) (fun b σ' => zTf b (c = 1 ∨ ∃ i' j', i ≤ i' ∧ i' < r.length ∧ j' < i' ∧ oShut tv a n (oSw r i' j')) ∧ cO σ' tv a r ∧ cK (fun k => k = 24) σ σ')
  | m, 0, i, c, σ, _, _, _, h => absurd h (Nat.not_lt_zero _)
  | 0, q + 1, i, c, σ, h, hc, hi, hq => by
    have h6 : r.length ≤ 6 := aW_len (oR_W hr hw)
    rw [fX1_closesBy_21, h.1, if_pos (nI_le (by omega) (by omega)), z_gdT hc]
    refine z_R_some ⟨?_, h, cK_rf⟩
    rcases hc with rfl | rfl
    · refine Or.inr ⟨rfl, fun q => ?_⟩
      rcases q with q | ⟨i', j', a, b, _⟩
      · exact absurd q (by decide)
      · omega
    · exact Or.inl ⟨rfl, Or.inl rfl⟩
  | m + 1, q + 1, i, c, σ, h, hc, hi, hq => by
    have h6 : r.length ≤ 6 := aW_len (oR_W hr hw)
    rw [fX1_closesBy_21, h.1, if_neg (nI_ge (by omega) (by omega))]
    rcases hc with rfl | rfl
    · rw [if_pos rfl]
      have L := c_cl_in (G := G) (P := fun b σ' => zTf b ((0 : Int32) = 1 ∨ ∃ i' j', i ≤ i' ∧ i' < r.length ∧ j' < i' ∧ oShut tv a n (oSw r i' j')) ∧ cO σ' tv a r ∧ cK (fun k => k = 24) σ σ') (K := fun l1 l2 l3 σ => fX1_closesBy_21 G q l1 l2 (l3 + 1) σ) hw hr hG (show i < r.length by omega) i z_FU 0 0 σ h (Or.inl rfl) (fun b σ' tb cb kb => by
        rw [nI_1]
        refine z_R_mono (c_cl_out hw hr hG m q (i + 1) b σ' cb (zTf_bool tb) (by omega) (by omega)) (fun b' s' hh => ⟨zTf_iff hh.1 ⟨fun hx => ?_, fun hx => ?_⟩, hh.2.1, cK_tr kb hh.2.2⟩)
        · rcases hx with e | ⟨i', j', x1, x2, x3, x4⟩
          · rcases tb with ⟨_, t⟩ | ⟨t0, _⟩
            · rcases t with t | ⟨j', y1, y2, y3⟩
              · exact absurd t (by decide)
              · exact Or.inr ⟨i, j', by omega, by omega, y2, y3⟩
            · rw [t0] at e; exact absurd e (by decide)
          · exact Or.inr ⟨i', j', by omega, x2, x3, x4⟩
        · rcases hx with e | ⟨i', j', x1, x2, x3, x4⟩
          · exact absurd e (by decide)
          · by_cases ei : i' = i
            · subst ei
              rcases tb with ⟨t1, _⟩ | ⟨_, t⟩
              · exact Or.inl t1
              · exact absurd (Or.inr ⟨j', by omega, x3, x4⟩) t
            · exact Or.inr ⟨i', j', by omega, x2, x3, x4⟩) (by omega) (by simp only [z_FU]; omega)
      rw [nI_0] at L
      exact L
    · rw [if_neg z_10, z_gdT (Or.inr rfl)]
      exact z_R_some ⟨Or.inl ⟨rfl, Or.inl rfl⟩, h, cK_rf⟩
theorem c_closes {tv : zTV} {a : aS} (hw : aW a) : ∀ (n f : Nat), n < f → n < 1000 → cSh tv a (zGC f) n
  | _, 0, h, _ => absurd h (Nat.not_lt_zero _)
  | 0, f + 1, _, _ => fun σ r h hr => by
    show z_R (fX1_closesBy_b (zGC f) (nI 0) σ) _
    unfold fX1_closesBy_b
    rw [if_neg (by decide), z_bdE (c_weakestNow h hr hw)]
    by_cases e : gWeak tv (aRing a r) = 0
    · rw [if_pos e]
      exact z_R_some ⟨Or.inr ⟨rfl, (gWeak_0 (oR_W hr hw)).mp e⟩, h, cK_rf⟩
    · rw [if_neg e]
      exact z_R_some ⟨Or.inl ⟨rfl, Classical.byContradiction fun q => e ((gWeak_0 (oR_W hr hw)).mpr q)⟩, h, cK_rf⟩
  | n + 1, f + 1, hf, hn => fun σ r h hr => by
    have h6 : r.length ≤ 6 := aW_len (oR_W hr hw)
    show z_R (fX1_closesBy_b (zGC f) (nI (n + 1)) σ) _
    unfold fX1_closesBy_b
    rw [if_pos (by rw [show (0 : Int32) = nI 0 from rfl]; exact nI_lt (by omega) (by omega))]
    have L := c_cl_out hw hr (c_closes hw n f (by omega) (by omega)) r.length z_FU 0 0 σ h (Or.inl rfl) (by omega) (by simp only [z_FU]; omega)
    rw [nI_0] at L
    refine z_R_mono L (fun b s hh => ⟨zTf_iff hh.1 ⟨fun hx => ?_, fun hx => ?_⟩, hh.2⟩)
    · rcases hx with e | ⟨i', j', _, x2, x3, x4⟩
      · exact absurd e (by decide)
      · exact ⟨i', j', x2, x3, x4⟩
    · obtain ⟨i', j', x2, x3, x4⟩ := hx
      exact Or.inr ⟨i', j', by omega, x2, x3, x4⟩
