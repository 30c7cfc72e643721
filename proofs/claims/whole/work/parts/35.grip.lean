/-! grips, hands, spent -/
def zb (v : Int32) : Int32 := if 0 ≤ v then (if v ≤ 99 then v else 99) else 0
theorem c_bounded {v : Int32} {σ : z_Mem} : fX5_bounded v σ = some (zb v, σ) := by
  unfold fX5_bounded zb
  repeat' split
  all_goals rfl
theorem zb_in (v : Int32) : 0 ≤ (zb v).toInt ∧ (zb v).toInt ≤ 99 := by
  unfold zb
  simp only [Int32.le_iff_toInt_le]
  have h0 : (0 : Int32).toInt = 0 := rfl
  have h9 : (99 : Int32).toInt = 99 := rfl
  split
  · split <;> omega
  · omega
theorem zb_N (v : Int32) : ∃ n, n ≤ 99 ∧ zb v = nI n := by
  obtain ⟨h1, h2⟩ := zb_in v
  obtain ⟨n, hn, e⟩ := nI_of (x := zb v) (by rw [Int32.lt_iff_toInt_lt]; simp; omega)
  rw [e, nI_toInt hn] at h2
  exact ⟨n, by omega, e⟩
theorem zb_id {v : Int32} (h : 0 ≤ v.toInt ∧ v.toInt ≤ 99) : zb v = v := by
  unfold zb
  rw [if_pos (by rw [Int32.le_iff_toInt_le]; simpa using h.1), if_pos (by rw [Int32.le_iff_toInt_le]; exact h.2)]
theorem zb_zb (v : Int32) : zb (zb v) = zb v := zb_id (zb_in v)
/-- whether a KIND stands under another -/
def zUnd (k b : Nat) : Bool := k == b || (k == 1 || k == 2 || k == 5) && b == 0 || k == 3 && (b == 1 || b == 0) || k == 4 && (b == 2 || b == 0)
theorem c_isUnder_q {σ : z_Mem} (q : Nat) : ∀ k, k < 6 → ∀ b, b < 6 → fX5_isUnder_4 (q + 7) (nI b) (nI k) 0 σ = some (if zUnd k b = true then 1 else 0, σ) := by
  intro k hk b hb
  have hb' : b = 0 ∨ b = 1 ∨ b = 2 ∨ b = 3 ∨ b = 4 ∨ b = 5 := by omega
  rcases (show k = 0 ∨ k = 1 ∨ k = 2 ∨ k = 3 ∨ k = 4 ∨ k = 5 by omega) with rfl | rfl | rfl | rfl | rfl | rfl <;> rcases hb' with rfl | rfl | rfl | rfl | rfl | rfl <;> rfl
theorem c_isUnder {σ : z_Mem} {k b : Nat} (hk : k < 6) (hb : b < 6) : fX5_isUnder (nI k) (nI b) σ = some (if zUnd k b = true then 1 else 0, σ) := by
  unfold fX5_isUnder
  have e : z_FU = 993 + 7 := rfl
  rw [e]
  exact c_isUnder_q 993 k hk b hb
def gBr (a : aS) (q : Nat) (v : Int32) : Int32 := if ak a q = 1 ∨ ak a q = 3 then 2 * v else v
theorem zKind {a : aS} (hw : aW a) {p : Nat} (hp : p < 6) : ∃ k, k < 6 ∧ ak a p = nI k := by
  obtain ⟨h1, -, -⟩ := hw.2.2.2.2.1 p hp
  obtain ⟨n, hn, e⟩ := nI_of (x := ak a p) (by rw [Int32.lt_iff_toInt_lt]; simp; omega)
  rw [e, nI_toInt hn] at h1
  exact ⟨n, by omega, e⟩
theorem c_asBrother {σ : z_Mem} {c q : Nat} {a : aS} {v : Int32} (h : cM σ c a) (hw : aW a) (hq : q < 6) : fX0_asBrother c v (nI q) σ = some (gBr a q v, σ) := by
  obtain ⟨k, hk, e⟩ := zKind hw hq
  unfold fX0_asBrother gBr
  rw [z_gdT (z_inN hq (by decide)), z_xN (by omega), (h.2.2.2.2.2.1 q hq).1, e, show (1 : Int32) = nI 1 by decide, z_bdE (c_isUnder hk (by decide))]
  rcases (show k = 0 ∨ k = 1 ∨ k = 2 ∨ k = 3 ∨ k = 4 ∨ k = 5 by omega) with rfl | rfl | rfl | rfl | rfl | rfl <;> rfl
def gGrip (tv : zTV) (a : aS) (p q : Nat) : Int32 :=
  if ak a p = 1 then zb (gBr a q (zb (tv (au a) 0 (aEnv a p (some q))))) else if ak a p = 2 then zb (zb (tv (au a) 0 (aEnv a p (some q))) - am a p)
  else if ak a p = 3 then (if am a p = am a q then 99 else zb (gBr a q (zb (tv (au a) 0 (aEnv a p (some q))))))
  else if ak a p = 4 then zb (zb (tv (au a) 0 (aEnv a p (some q))) - am a p + z_mn (ah a) 20) else if ak a p = 5 then as_ a p else zb (tv (au a) 0 (aEnv a p (some q)))
/-- a Marsh lies apart from the codes' stack -/
abbrev zAp (c : Nat) : Prop := 5 ≤ c
theorem cM_k4 {σ σ' : z_Mem} {c : Nat} {a : aS} (h : cM σ c a) (hk : cK (fun k => k = 4) σ σ') (hc : zAp c) : cM σ' c a :=
  cM_kept h hk (fun i hi => by have : 5 ≤ c := hc; omega)
theorem c_gripOf {σ : z_Mem} {c p q n : Nat} {a : aS} {tv : zTV} (h : cM σ c a) (hw : aW a) (hT : cT σ tv n) (hr : au a < n) (hc : zAp c) (hp : p < an a) (hq : q < an a) : z_R (fX0_gripOf c (nI p) (nI q) σ) (fun r σ' => r = gGrip tv a p q ∧ cK (fun k => k = 4) σ σ') := by
  have h6 := hw.1
  unfold fX0_gripOf
  refine z_R_bdE (c_hasN h hw hp) ?_
  rw [if_neg (by decide)]
  refine z_R_bdE (c_hasN h hw hq) ?_
  rw [if_neg (by decide)]
  refine z_R_bd (c_value (k := 0) (o := some q) h hT hr (by decide) (by omega) (fun j e => by cases e; omega) hc) (fun v s hv => ?_)
  obtain ⟨ev, hk⟩ := hv
  have hM := cM_k4 h hk hc
  refine z_R_bdE c_bounded ?_
  rw [z_gdT (z_inN (show p < 6 by omega) (by decide)), z_gdT (z_inN (show p < 6 by omega) (by decide)), z_xN (by omega)]
  obtain ⟨g1, g2, g3, g4, g5, g6, g7⟩ := id hM
  simp only [(g6 p (by omega)).1, (g6 p (by omega)).2.1, (g6 p (by omega)).2.2, g3]
  rw [ev]
  unfold gGrip
  refine z_R_if (fun h1 => ?_) (fun h1 => ?_)
  · rw [if_pos h1]
    refine z_R_bdE (c_asBrother hM hw (by omega)) (z_R_bdE c_bounded (z_R_some ⟨rfl, hk⟩))
  · rw [if_neg h1]
    refine z_R_if (fun h2 => ?_) (fun h2 => ?_)
    · rw [if_pos h2]
      exact z_R_bdE c_bounded (z_R_some ⟨rfl, hk⟩)
    · rw [if_neg h2]
      refine z_R_if (fun h3 => ?_) (fun h3 => ?_)
      · rw [if_pos h3, z_gdT (z_inN (show p < 6 by omega) (by decide)), z_gdT (z_inN (show q < 6 by omega) (by decide)), z_xN (show q < 2 ^ 31 by omega), (g6 q (by omega)).2.1]
        refine z_R_if (fun h4 => ?_) (fun h4 => ?_)
        · rw [if_pos h4]; exact z_R_some ⟨rfl, hk⟩
        · rw [if_neg h4]
          exact z_R_bdE (c_asBrother hM hw (by omega)) (z_R_bdE c_bounded (z_R_some ⟨rfl, hk⟩))
      · rw [if_neg h3]
        refine z_R_if (fun h4 => ?_) (fun h4 => ?_)
        · rw [if_pos h4]
          exact z_R_bdE c_bounded (z_R_some ⟨rfl, hk⟩)
        · rw [if_neg h4]
          refine z_R_if (fun h5 => ?_) (fun h5 => ?_)
          · rw [if_pos h5, z_gdT (z_inN (show p < 6 by omega) (by decide))]
            exact z_R_some ⟨rfl, hk⟩
          · rw [if_neg h5]
            exact z_R_some ⟨rfl, hk⟩
def gHand (tv : zTV) (a : aS) (p : Nat) (x : Int32) : Int32 :=
  if ak a p = 1 then zb x else if ak a p = 2 then zb ((x - zb (tv (au a) 1 (aEnv a p none))) / 2)
  else if ak a p = 3 then (if ah a - ah a / 2 * 2 = 0 then zb x else zb (x - zb (tv (au a) 1 (aEnv a p none))))
  else if ak a p = 4 then (if 5 ≤ x then zb ((x - zb (tv (au a) 1 (aEnv a p none))) / 2) else zb x)
  else if ak a p = 5 then zb (x - zb (tv (au a) 1 (aEnv a p none)) + 10) else zb (x - zb (tv (au a) 1 (aEnv a p none)))
theorem c_handedOn {σ : z_Mem} {c p n : Nat} {a : aS} {tv : zTV} {x : Int32} (h : cM σ c a) (hw : aW a) (hT : cT σ tv n) (hr : au a < n) (hc : zAp c) (hp : p < an a) : z_R (fX0_handedOn c (nI p) x σ) (fun r σ' => r = gHand tv a p x ∧ cK (fun k => k = 4) σ σ') := by
  have h6 := hw.1
  unfold fX0_handedOn
  refine z_R_bdE (c_hasN h hw hp) ?_
  rw [if_neg (by decide)]
  refine z_R_bd (c_value (k := 1) (o := none) h hT hr (by decide) (by omega) (fun j e => by cases e) hc) (fun v s hv => ?_)
  obtain ⟨ev, hk⟩ := hv
  have hM := cM_k4 h hk hc
  refine z_R_bdE c_bounded ?_
  rw [z_gdT (z_inN (show p < 6 by omega) (by decide)), z_xN (by omega)]
  obtain ⟨g1, g2, g3, g4, g5, g6, g7⟩ := id hM
  simp only [(g6 p (by omega)).1, g3]
  rw [ev]
  unfold gHand
  repeat' refine z_R_if (fun hh => ?_) (fun hh => ?_)
  all_goals simp only [*, if_true, if_false, ite_true, ite_false]
  all_goals exact z_R_bdE c_bounded (z_R_some ⟨rfl, hk⟩)
def gSpent (tv : zTV) (a : aS) (p : Nat) : Int32 :=
  if ak a p = 1 then zb (tv (au a) 2 (aEnv a p none)) / 2 else if ak a p = 2 then zb (zb (tv (au a) 2 (aEnv a p none)) + 1) else if ak a p = 3 then zb (tv (au a) 2 (aEnv a p none)) / 2
  else if ak a p = 4 then (if ac a ≤ 20 then 0 else zb (zb (tv (au a) 2 (aEnv a p none)) + 1)) else if ak a p = 5 then 0 else zb (tv (au a) 2 (aEnv a p none))
theorem c_spentBy {σ : z_Mem} {c p n : Nat} {a : aS} {tv : zTV} (h : cM σ c a) (hw : aW a) (hT : cT σ tv n) (hr : au a < n) (hc : zAp c) (hp : p < an a) : z_R (fX0_spentBy c (nI p) σ) (fun r σ' => r = gSpent tv a p ∧ cK (fun k => k = 4) σ σ') := by
  have h6 := hw.1
  unfold fX0_spentBy
  refine z_R_bdE (c_hasN h hw hp) ?_
  rw [if_neg (by decide)]
  refine z_R_bd (c_value (k := 2) (o := none) h hT hr (by decide) (by omega) (fun j e => by cases e) hc) (fun v s hv => ?_)
  obtain ⟨ev, hk⟩ := hv
  have hM := cM_k4 h hk hc
  refine z_R_bdE c_bounded ?_
  rw [z_gdT (z_inN (show p < 6 by omega) (by decide)), z_xN (by omega)]
  obtain ⟨g1, g2, g3, g4, g5, g6, g7⟩ := id hM
  simp only [(g6 p (by omega)).1, g4]
  rw [ev]
  unfold gSpent
  repeat' refine z_R_if (fun hh => ?_) (fun hh => ?_)
  all_goals simp only [*, if_true, if_false, ite_true, ite_false]
  all_goals first | exact z_R_bdE c_bounded (z_R_some ⟨rfl, hk⟩) | exact z_R_some ⟨rfl, hk⟩
