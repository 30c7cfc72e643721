/-! the whole state: marsh, image, texts, tape, sheets -/
abbrev zG : Type := aS × Option aS × zTV × Nat × List Int32 × (Nat → Option (Nat × List Int32))
abbrev gA (g : zG) : aS := g.1
abbrev gB (g : zG) : Option aS := g.2.1
abbrev gV (g : zG) : zTV := g.2.2.1
abbrev gN (g : zG) : Nat := g.2.2.2.1
abbrev gP (g : zG) : List Int32 := g.2.2.2.2.1
abbrev gS (g : zG) : Nat → Option (Nat × List Int32) := g.2.2.2.2.2
def aOk (a : aS) (n : Nat) : Prop := aW a ∧ au a < n ∧ (ah a).toInt ≤ 999
def gW (g : zG) : Prop := aOk (gA g) (gN g) ∧ (∀ b, gB g = some b → aOk b (gN g)) ∧ gN g ≤ 6 ∧ (gP g).length ≤ 160 ∧ (∀ x ∈ gP g, 0 ≤ x.toInt ∧ x.toInt ≤ 255) ∧ ∀ s k l, gS g s = some (k, l) → k ≤ 2 ∧ l.length ≤ 40
def cB (σ : z_Mem) (b : Option aS) : Prop := match b with
  | none => σ.1 0 7 = 0
  | some b => σ.1 0 7 = 1 ∧ cM σ 17 b
def cTp (σ : z_Mem) (tp : List Int32) : Prop := σ.1 5 2 = nI tp.length ∧ ∀ i, i < tp.length → σ.1 6 i = tp.getD i 0
def cSheet (σ : z_Mem) (s : Nat) (x : Option (Nat × List Int32)) : Prop := match x with
  | none => σ.1 (28 + 2 * s) 1 = -1 ∧ σ.1 (28 + 2 * s) 2 = 0
  | some (k, l) => σ.1 (28 + 2 * s) 1 = nI k ∧ σ.1 (28 + 2 * s) 2 = nI l.length ∧ ∀ i, i < l.length → σ.1 (28 + 2 * s + 1) i = l.getD i 0
def cG (σ : z_Mem) (g : zG) : Prop := cM σ 7 (gA g) ∧ cB σ (gB g) ∧ cT σ (gV g) (gN g) ∧ cTp σ (gP g) ∧ ∀ s, s < 4 → cSheet σ s (gS g s)
/-- what the class uses as it goes: the codes' stack, thought, orders -/
def zScr (k : Nat) : Prop := k = 4 ∨ (12 ≤ k ∧ k ≤ 16) ∨ (22 ≤ k ∧ k ≤ 26)
theorem cB_kept {S : Nat → Prop} {σ σ' : z_Mem} {b : Option aS} (h : cB σ b) (hk : cK S σ σ') (h0 : ¬ S 0) (h1 : ∀ i, i < 5 → ¬ S (17 + i)) : cB σ' b := by
  match b, h with
  | none, h => exact (congrFun (hk 0 h0) 7).trans h
  | some b, h => exact ⟨(congrFun (hk 0 h0) 7).trans h.1, cM_kept h.2 hk h1⟩
theorem cTp_kept {S : Nat → Prop} {σ σ' : z_Mem} {tp : List Int32} (h : cTp σ tp) (hk : cK S σ σ') (h5 : ¬ S 5) (h6 : ¬ S 6) : cTp σ' tp := by
  unfold cTp
  rw [hk 5 h5, hk 6 h6]
  exact h
theorem cSheet_kept {S : Nat → Prop} {σ σ' : z_Mem} {s : Nat} {x : Option (Nat × List Int32)} (h : cSheet σ s x) (hk : cK S σ σ') (h1 : ¬ S (28 + 2 * s)) (h2 : ¬ S (28 + 2 * s + 1)) : cSheet σ' s x := by
  match x, h with
  | none, h =>
    unfold cSheet
    rw [hk _ h1]
    exact h
  | some (k, l), h =>
    unfold cSheet
    rw [hk _ h1, hk _ h2]
    exact h
theorem cG_k {σ σ' : z_Mem} {g : zG} (h : cG σ g) (hk : cK zScr σ σ') : cG σ' g := by
  obtain ⟨h1, h2, h3, h4, h5⟩ := h
  refine ⟨cM_kept h1 hk (fun i hi => by unfold zScr; omega), cB_kept h2 hk (by unfold zScr; omega) (fun i hi => by unfold zScr; omega), cT_kept h3 hk (by unfold zScr; omega) (by unfold zScr; omega) (by unfold zScr; omega), cTp_kept h4 hk (by unfold zScr; omega) (by unfold zScr; omega), fun s hs => cSheet_kept (h5 s hs) hk (by unfold zScr; omega) (by unfold zScr; omega)⟩
theorem cK_4 {σ σ' : z_Mem} (h : cK (fun k => k = 4) σ σ') : cK zScr σ σ' := cK_mono h (fun k hk => Or.inl hk)
/-- the marsh alone has changed -/
theorem cG_a {σ σ' : z_Mem} {g : zG} {a' : aS} (h : cG σ g) (hk : cK (fun k => zScr k ∨ (7 ≤ k ∧ k ≤ 11)) σ σ') (ha : cM σ' 7 a') : cG σ' (a', g.2) := by
  obtain ⟨h1, h2, h3, h4, h5⟩ := h
  refine ⟨ha, cB_kept h2 hk (by unfold zScr; omega) (fun i hi => by unfold zScr; omega), cT_kept h3 hk (by unfold zScr; omega) (by unfold zScr; omega) (by unfold zScr; omega), cTp_kept h4 hk (by unfold zScr; omega) (by unfold zScr; omega), fun s hs => cSheet_kept (h5 s hs) hk (by unfold zScr; omega) (by unfold zScr; omega)⟩
/-! the reference's -/
def mB (τ : z_Mem) (b : Option aS) : Prop := match b with
  | none => τ.1 0 35 = -1
  | some b => τ.1 0 35 = nI (an b) ∧ τ.1 0 36 = nI (ar b).length ∧ τ.1 0 37 = ah b ∧ τ.1 0 38 = ac b ∧ τ.1 0 39 = nI (au b) ∧ (∀ i, i < 6 → τ.1 9 (3 * i + 2) = ak b i ∧ τ.1 9 (3 * i) = am b i ∧ τ.1 9 (3 * i + 1) = as_ b i) ∧ ∀ i, i < (ar b).length → τ.1 10 i = nI ((ar b).getD i 0)
def mTp (τ : z_Mem) (tp : List Int32) : Prop := τ.1 0 6 = nI tp.length ∧ ∀ i, i < tp.length → τ.1 3 i = tp.getD i 0
def mSheet (τ : z_Mem) (s : Nat) (x : Option (Nat × List Int32)) : Prop := match x with
  | none => τ.1 11 s = 0
  | some (k, l) => τ.1 11 s = 1 ∧ τ.1 12 s = nI k ∧ τ.1 13 s = nI l.length ∧ ∀ i, i < l.length → τ.1 14 (40 * s + i) = l.getD i 0
def mG (τ : z_Mem) (g : zG) : Prop := mM τ (gA g) ∧ mB τ (gB g) ∧ mT τ (gV g) (gN g) ∧ mTp τ (gP g) ∧ ∀ s, s < 4 → mSheet τ s (gS g s)
/-- what stays of the reference but for its marsh -/
def mR (τ τ' : z_Mem) : Prop := (∀ k, k ≠ 0 → k ≠ 4 → k ≠ 5 → k ≠ 6 → k ≠ 7 → k ≠ 8 → τ'.1 k = τ.1 k) ∧ ∀ j, (j = 3 ∨ j = 6 ∨ 35 ≤ j ∧ j ≤ 39) → τ'.1 0 j = τ.1 0 j
theorem mR_tr {τ τ' τ'' : z_Mem} (h : mR τ τ') (h' : mR τ' τ'') : mR τ τ'' := ⟨fun k h1 h2 h3 h4 h5 h6 => (h'.1 k h1 h2 h3 h4 h5 h6).trans (h.1 k h1 h2 h3 h4 h5 h6), fun j hj => (h'.2 j hj).trans (h.2 j hj)⟩
theorem mR_k {τ τ' : z_Mem} (h : mK τ τ') : mR τ τ' := ⟨fun k h1 _ _ _ _ _ => h.1 k h1, fun j hj => h.2 j (by omega)⟩
theorem mR_c {τ τ' : z_Mem} (h : mC τ τ') : mR τ τ' := ⟨fun k h1 _ h3 _ _ _ => h.1 k h1 h3, fun j hj => h.2 j (by omega)⟩
theorem mR_p {τ τ' : z_Mem} (h : mP τ τ') : mR τ τ' := ⟨fun k h1 h2 _ h4 _ _ => h.1 k h1 h2 h4, fun j hj => h.2 j (by omega) (by omega)⟩
theorem mG_a {τ τ' : z_Mem} {g : zG} {a' : aS} (h : mG τ g) (hk : mR τ τ') (ha : mM τ' a') : mG τ' (a', g.2) := by
  obtain ⟨h1, h2, h3, h4, h5⟩ := h
  refine ⟨ha, ?_, mT_kept h3 (hk.2 3 (by omega)) (hk.1 1 (by omega) (by omega) (by omega) (by omega) (by omega) (by omega)) (hk.1 2 (by omega) (by omega) (by omega) (by omega) (by omega) (by omega)), ?_, fun s hs => ?_⟩
  · show mB τ' (gB g)
    match gB g, h2 with
    | none, h2 => exact (hk.2 35 (by omega)).trans h2
    | some b, h2 =>
      unfold mB
      rw [hk.2 35 (by omega), hk.2 36 (by omega), hk.2 37 (by omega), hk.2 38 (by omega), hk.2 39 (by omega), hk.1 9 (by omega) (by omega) (by omega) (by omega) (by omega) (by omega), hk.1 10 (by omega) (by omega) (by omega) (by omega) (by omega) (by omega)]
      exact h2
  · unfold mTp
    rw [hk.2 6 (by omega), hk.1 3 (by omega) (by omega) (by omega) (by omega) (by omega) (by omega)]
    exact h4
  · have := h5 s hs
    show mSheet τ' s (gS g s)
    match gS g s, this with
    | none, q =>
      unfold mSheet
      rw [hk.1 11 (by omega) (by omega) (by omega) (by omega) (by omega) (by omega)]
      exact q
    | some (k, l), q =>
      unfold mSheet
      rw [hk.1 11 (by omega) (by omega) (by omega) (by omega) (by omega) (by omega), hk.1 12 (by omega) (by omega) (by omega) (by omega) (by omega) (by omega), hk.1 13 (by omega) (by omega) (by omega) (by omega) (by omega) (by omega), hk.1 14 (by omega) (by omega) (by omega) (by omega) (by omega) (by omega)]
      exact q
theorem mG_k {τ τ' : z_Mem} {g : zG} (h : mG τ g) (hk : mK τ τ') : mG τ' g := mG_a h (mR_k hk) (mM_kept h.1 hk)
/-- both answer alike, and are alike then -/
def zSame {α : Type} (oc om : Option (α × z_Mem)) : Prop := ∃ (r : α) (g' : zG), gW g' ∧ z_R oc (fun r' σ' => r' = r ∧ cG σ' g') ∧ z_R om (fun r' τ' => r' = r ∧ mG τ' g')
theorem gW_a {g : zG} {a' : aS} (h : gW g) (ha : aOk a' (gN g)) : gW (a', g.2) := ⟨ha, h.2⟩
section ZPUB
variable {σ τ : z_Mem} {g : zG}
theorem p_grips (hc : cG σ g) (hm : mG τ g) (hw : gW g) (x y : Int32) : zSame (fX5_grips x y σ) (fX6_grips x y τ) := by
  have hA := hw.1.1
  have h6 := hA.1
  unfold fX5_grips fX6_grips fX6_areTwo
  rw [z_bdE (c_has hc.1 hA)]
  by_cases h1 : 0 ≤ x.toInt ∧ x.toInt < an (gA g)
  · rw [if_pos h1, if_neg (by decide), z_bdE (c_has hc.1 hA), z_bdE (m_isOne hm.1 hA), if_pos h1]
    by_cases h2 : 0 ≤ y.toInt ∧ y.toInt < an (gA g)
    · rw [if_pos h2, if_neg (by decide)]
      simp only [if_neg (show ¬ (1 : Int32) = 0 by decide)]
      rw [z_bdE (m_isOne hm.1 hA), if_pos h2]
      simp only [if_neg (show ¬ (1 : Int32) = 0 by decide)]
      by_cases e : x = y
      · rw [if_pos e, if_pos e]
        exact ⟨-2, g, hw, z_R_some ⟨rfl, hc⟩, z_R_some ⟨rfl, hm⟩⟩
      · rw [if_neg e, if_neg e]
        obtain ⟨p, hp, rfl⟩ := nI_of (x := x) (by rw [Int32.lt_iff_toInt_lt]; simp; omega)
        obtain ⟨q, hq, rfl⟩ := nI_of (x := y) (by rw [Int32.lt_iff_toInt_lt]; simp; omega)
        rw [nI_toInt hp] at h1
        rw [nI_toInt hq] at h2
        refine ⟨gGrip (gV g) (gA g) p q, g, hw, ?_, ?_⟩
        · exact z_R_bd (c_gripOf hc.1 hA hc.2.2.1 hw.1.2.1 (by decide) (by omega) (by omega)) (fun r s h => z_R_some ⟨h.1, cG_k hc (cK_4 h.2)⟩)
        · refine z_R_bdE (r := 1) (s := τ) rfl ?_
          rw [if_neg (by decide)]
          exact z_R_bd (m_gripsOf hm.1 hA hm.2.2.1 hw.1.2.1 (by omega) (by omega)) (fun r s h => z_R_some ⟨h.1, mG_k hm h.2⟩)
    · rw [if_neg h2, if_pos rfl]
      simp only [if_neg (show ¬ (1 : Int32) = 0 by decide)]
      rw [z_bdE (m_isOne hm.1 hA), if_neg h2]
      exact ⟨-2, g, hw, z_R_some ⟨rfl, hc⟩, z_R_bdE (r := 0) (s := τ) rfl (z_R_some ⟨rfl, hm⟩)⟩
  · rw [if_neg h1, if_pos rfl, z_bdE (m_isOne hm.1 hA), if_neg h1]
    exact ⟨-2, g, hw, z_R_some ⟨rfl, hc⟩, z_R_bdE (r := 0) (s := τ) rfl (z_R_some ⟨rfl, hm⟩)⟩
theorem p_hands (hc : cG σ g) (hm : mG τ g) (hw : gW g) (x y : Int32) : zSame (fX5_hands x y σ) (fX6_hands x y τ) := by
  have hA := hw.1.1
  have h6 := hA.1
  unfold fX5_hands fX6_hands
  rw [z_bdE (c_has hc.1 hA), z_bdE (m_isOne hm.1 hA)]
  by_cases h1 : 0 ≤ x.toInt ∧ x.toInt < an (gA g)
  · simp only [if_pos h1, if_neg (show ¬ (1 : Int32) = 0 by decide)]
    rw [z_bdE m_in]
    simp only [Int32.lt_iff_toInt_lt, Int32.le_iff_toInt_le, show (0 : Int32).toInt = 0 from rfl, show (99 : Int32).toInt = 99 from rfl, show (0 : Int64).toInt = 0 from rfl, show (99 : Int64).toInt = 99 from rfl]
    by_cases h2 : 0 ≤ y.toInt ∧ y.toInt ≤ 99
    · simp only [if_neg (show ¬ y.toInt < 0 by omega), if_pos h2, if_pos h2.2, if_neg (show ¬ (1 : Int32) = 0 by decide)]
      obtain ⟨p, hp, rfl⟩ := nI_of (x := x) (by rw [Int32.lt_iff_toInt_lt]; simp; omega)
      rw [nI_toInt hp] at h1
      refine ⟨gHand (gV g) (gA g) p y, g, hw, ?_, ?_⟩
      · exact z_R_bd (c_handedOn hc.1 hA hc.2.2.1 hw.1.2.1 (by decide) (by omega)) (fun r s h => z_R_some ⟨h.1, cG_k hc (cK_4 h.2)⟩)
      · exact z_R_bd (m_handsOf hm.1 hA hm.2.2.1 hw.1.2.1 (by omega) h2) (fun r s h => z_R_some ⟨h.1, mG_k hm h.2⟩)
    · simp only [if_neg h2, if_true]
      refine ⟨-2, g, hw, ?_, z_R_some ⟨rfl, hm⟩⟩
      refine z_R_if (fun _ => z_R_some ⟨rfl, hc⟩) (fun h => ?_)
      rw [if_neg (by omega)]
      exact z_R_some ⟨rfl, hc⟩
  · simp only [if_neg h1, if_true]
    exact ⟨-2, g, hw, z_R_some ⟨rfl, hc⟩, z_R_some ⟨rfl, hm⟩⟩
end ZPUB
