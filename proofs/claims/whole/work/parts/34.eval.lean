/-! what a TEXT's codes say: a stack -/
def zop (w a b : Int32) : Int32 := if w = 42 then a * b else if w = 43 then a + b else if w = 45 then a - b else if w = 60 then (if b ≤ a then 0 else 1) else if w = 61 then (if a = b then 1 else 0) else if w = 265 then (if a = 0 then (if b = 0 then 0 else 1) else 1) else if w = 266 then (if a = 0 then 0 else (if b = 0 then 0 else 1)) else if w = 267 then (if a = 0 then 1 else 0) else -a
theorem c_done {w a b : Int32} {σ : z_Mem} : fX4_done w a b σ = some (zop w a b, σ) := by
  unfold fX4_done zop
  repeat' split
  all_goals rfl
def zrun (e : Nat → Int32) : List Int32 → List Int32 → Option (List Int32)
  | [], st => some st
  | x :: xs, st => if (20000 : Int32) ≤ x then (if x = 20003 ∨ x = 20267 then (match st with
      | a :: r => zrun e xs (zop (x - 20000) a a :: r)
      | [] => none) else (match st with
      | b :: a :: r => zrun e xs (zop (x - 20000) a b :: r)
      | _ => none)) else if st.length < 64 then zrun e xs ((if (10000 : Int32) ≤ x then e (z_x (x - 10000)) else x) :: st) else none
def zstk (m : Nat → Int32) (st : List Int32) : Prop := ∀ j, j < st.length → m j = st.getD (st.length - 1 - j) 0
theorem zstk_pop {m : Nat → Int32} {a : Int32} {r : List Int32} (h : zstk m (a :: r)) : m r.length = a ∧ zstk m r := by
  refine ⟨?_, fun j hj => ?_⟩
  · have := h r.length (by simp)
    simpa using this
  · have := h j (by simp; omega)
    rw [this]
    rw [show (a :: r).length - 1 - j = (r.length - 1 - j) + 1 by simp; omega]
    rfl
theorem zstk_push {m : Nat → Int32} {a : Int32} {r : List Int32} (h : zstk m r) : zstk (upd m r.length a) (a :: r) := by
  intro j hj
  simp only [List.length_cons] at hj
  simp only [upd]
  by_cases q : j = r.length
  · rw [if_pos q, q]; simp
  · rw [if_neg q, h j (by omega), show (a :: r).length - 1 - j = (r.length - 1 - j) + 1 by simp; omega]
    rfl
theorem zstk_row {σ : z_Mem} {a : Int32} {r : List Int32} {k : Nat} (h : zstk (σ.1 4) r) (hk : k = r.length) : zstk ((z_pt σ 4 k a).1 4) (a :: r) := by
  have e : (z_pt σ 4 k a).1 4 = upd (σ.1 4) r.length a := by
    subst hk
    simp [z_pt, va_up]
  rw [e]
  exact zstk_push h
theorem nI_sub1 {n : Nat} : nI (n + 1) - (1 : Int32) = nI n := nI_pred n
theorem nI_sub2 {n : Nat} : nI (n + 2) - (2 : Int32) = nI n := by
  rw [show (2 : Int32) = nI 2 by decide, pk_sub (by omega)]
  rfl
theorem z_1le {n : Nat} (h : 1 ≤ n) (hn : n < 2 ^ 31) : (1 : Int32) ≤ nI n := z_lle 1 1 (by decide) h hn
theorem z_2le {n : Nat} (h : 2 ≤ n) (hn : n < 2 ^ 31) : (2 : Int32) ≤ nI n := z_lle 2 2 (by decide) h hn
theorem z_1le2 {n : Nat} (h : 2 ≤ n) (hn : n < 2 ^ 31) : (1 : Int32) ≤ nI n := z_lle 1 1 (by decide) (by omega) hn
theorem c_run {c : Nat} {one other : Int32} {e : Nat → Int32} : ∀ (L : List Int32) (q i : Nat) (st : List Int32) (v : Int32) (σ : z_Mem), (∀ (w : Int32) (σ' : z_Mem), cK (fun k => k = 4) σ σ' → 0 ≤ w.toInt → fX0_named c w one other σ' = some (e (z_x w), σ')) → (∀ k, k < L.length → σ.1 2 (i + k) = L.getD k 0) → i + L.length ≤ 960 → st.length ≤ 64 → zstk (σ.1 4) st → zrun e L st = some [v] → L.length < q → z_R (fX4_value_90 c q one other (nI (i + L.length)) (nI st.length) (nI i) σ) (fun r σ' => r = v ∧ cK (fun k => k = 4) σ σ')
  | _, 0, i, st, v, σ, _, _, _, _, _, _, h => absurd h (Nat.not_lt_zero _)
  | [], q + 1, i, st, v, σ, hn, hc, hl, hs, hk, hr, hq => by
    rw [fX4_value_90]
    simp only [zrun] at hr
    cases hr
    rw [if_pos (nI_le (by simp) (by simp at hl; omega)), z_gdT (by decide)]
    refine z_R_some ⟨?_, cK_rf⟩
    have := hk 0 (by simp)
    rw [z_x0]
    simpa using this
  | x :: xs, q + 1, i, st, v, σ, hn, hc, hl, hs, hk, hr, hq => by
    have hl2 : i + xs.length + 1 ≤ 960 := by simp at hl; omega
    have ex : σ.1 2 i = x := by simpa using hc 0 (by simp)
    have hc' : ∀ (s : z_Mem), s.1 2 = σ.1 2 → ∀ k, k < xs.length → s.1 2 (i + 1 + k) = xs.getD k 0 := by
      intro s es k hk2
      rw [es]
      have := hc (k + 1) (by simp; omega)
      rw [show i + 1 + k = i + (k + 1) by omega, this]
      rfl
    have el : nI (i + (x :: xs).length) = nI (i + 1 + xs.length) := by congr 1; simp; omega
    have hstep : ∀ (s : z_Mem) (st' : List Int32), cK (fun k => k = 4) σ s → st'.length ≤ 64 → zstk (s.1 4) st' → zrun e xs st' = some [v] → z_R (fX4_value_90 c q one other (nI (i + (x :: xs).length)) (nI st'.length) (nI i + 1) s) (fun r σ' => r = v ∧ cK (fun k => k = 4) σ σ') := by
      intro s st' hks h64 hks2 hrun
      rw [el, nI_1]
      refine z_R_mono (c_run xs q (i + 1) st' v s (fun w σ' h1 h2 => hn w σ' (cK_tr hks h1) h2) (hc' s (hks 2 (by decide))) (by omega) h64 hks2 hrun (by simp at hq; omega)) (fun r σ' h => ⟨h.1, cK_tr hks h.2⟩)
    have hpt : ∀ (k : Nat) (y : Int32), cK (fun k => k = 4) σ (z_pt σ 4 k y) := fun k y k2 hk2 => z_pt_r hk2
    rw [fX4_value_90, if_neg (nI_ge (by simp) (by simp; omega)), z_gdT (z_inN (by omega) (by decide)), z_xN (by omega), ex]
    rw [zrun.eq_def] at hr
    simp only at hr
    by_cases h2 : (20000 : Int32) ≤ x
    · rw [if_pos h2] at hr
      rw [if_pos h2]
      by_cases h3 : x = 20003 ∨ x = 20267
      · rw [if_pos h3] at hr
        match st, hr with
        | a :: r, hr =>
          obtain ⟨k1, k2⟩ := zstk_pop hk
          have hs2 : r.length + 1 ≤ 64 := hs
          have un : z_R (if (1 : Int32) ≤ nI (a :: r).length then (z_gd (z_in (nI (a :: r).length - (1 : Int32)) 64) (z_gd (z_in (((nI (a :: r).length - (1 : Int32)) + (1 : Int32)) - (1 : Int32)) 64) (z_bd (fX4_done (x - (20000 : Int32)) (σ.1 4 (z_x (nI (a :: r).length - (1 : Int32)))) (σ.1 4 (z_x (((nI (a :: r).length - (1 : Int32)) + (1 : Int32)) - (1 : Int32)))) σ) (fun r1 s1 => z_gd (z_in (nI (a :: r).length - (1 : Int32)) 64) (z_st (z_pt s1 4 (z_x (nI (a :: r).length - (1 : Int32))) r1) (fun s2 => fX4_value_90 c q one other (nI (i + (x :: xs).length)) ((nI (a :: r).length - (1 : Int32)) + 1) (nI i + 1) s2)))))) else (some ((0 : Int32), σ))) (fun r σ' => r = v ∧ cK (fun k => k = 4) σ σ') := by
            simp only [List.length_cons, nI_sub1, nI_1]
            rw [if_pos (z_1le (by omega) (by omega)), z_gdT (z_inN (by omega) (by decide)), z_gdT (z_inN (by omega) (by decide)), z_xN (by omega), z_bdE c_done, z_gdT (z_inN (by omega) (by decide)), k1]
            simp only [z_st]
            have := hstep (z_pt σ 4 r.length (zop (x - 20000) a a)) (zop (x - 20000) a a :: r) (hpt _ _) hs2 (zstk_row k2 rfl) hr
            simpa [nI_1] using this
          by_cases h4 : x = 20003
          · rw [if_pos h4]; exact un
          · rw [if_neg h4, if_pos (by rcases h3 with h | h; exact absurd h h4; exact h)]; exact un
        | [], hr => cases hr
      · rw [if_neg h3] at hr
        rw [if_neg (fun h => h3 (Or.inl h)), if_neg (fun h => h3 (Or.inr h))]
        match st, hr with
        | b :: a :: r, hr =>
          obtain ⟨k1, k2⟩ := zstk_pop hk
          obtain ⟨k3, k4⟩ := zstk_pop k2
          have hs2 : r.length + 1 + 1 ≤ 64 := hs
          simp only [List.length_cons] at k1
          simp only [List.length_cons]
          rw [if_pos (z_2le (by omega) (by omega))]
          have e1 : nI (r.length + 1 + 1) - (2 : Int32) = nI r.length := nI_sub2
          have e2 : nI r.length + (2 : Int32) - (1 : Int32) = nI (r.length + 1) := by
            rw [show (2 : Int32) = nI 2 by decide, nI_add]; exact nI_sub1
          simp only [e1, e2]
          rw [z_gdT (z_inN (by omega) (by decide)), z_gdT (z_inN (by omega) (by decide)), z_xN (by omega), z_xN (by omega), z_bdE c_done, z_gdT (z_inN (by omega) (by decide)), k1, k3]
          simp only [z_st]
          have := hstep (z_pt σ 4 r.length (zop (x - 20000) a b)) (zop (x - 20000) a b :: r) (hpt _ _) (by simp; omega) (zstk_row k4 rfl) hr
          simpa [nI_1] using this
        | [a], hr => cases hr
        | [], hr => cases hr
    · rw [if_neg h2] at hr
      rw [if_neg h2]
      by_cases h3 : st.length < 64
      · rw [if_pos h3] at hr
        rw [if_pos (by rw [show (64 : Int32) = nI 64 by decide]; exact nI_lt h3 (by decide))]
        by_cases h4 : (10000 : Int32) ≤ x
        · rw [if_pos h4] at hr
          rw [if_pos h4]
          have hw : 0 ≤ (x - 10000).toInt := by
            rw [Int32.le_iff_toInt_le] at h4
            have h5 : x.toInt < 20000 := by
              have := Int32.not_le.mp h2
              rw [Int32.lt_iff_toInt_lt] at this
              exact this
            have h6 : (10000 : Int32).toInt = 10000 := rfl
            rw [Int32.toInt_sub, h6]
            rw [h6] at h4
            rw [Int.bmod_eq_of_le (by omega) (by omega)]
            omega
          rw [z_bdE (hn _ σ cK_rf hw), z_gdT (z_inN (by omega) (by decide)), z_xN (by omega)]
          simp only [z_st]
          have := hstep (z_pt σ 4 st.length (e (z_x (x - 10000)))) (e (z_x (x - 10000)) :: st) (hpt _ _) (by simp; omega) (zstk_row hk rfl) hr
          simpa [nI_1] using this
        · rw [if_neg h4] at hr
          rw [if_neg h4, z_gdT (z_inN (by omega) (by decide)), z_xN (by omega)]
          simp only [z_st]
          have := hstep (z_pt σ 4 st.length x) (x :: st) (hpt _ _) (by simp; omega) (zstk_row hk rfl) hr
          simpa [nI_1] using this
      · rw [if_neg h3] at hr
        cases hr
/-! one of MEN's environment; what TEXTS the class keeps -/
def aNx (a : aS) (o : Option Nat) : Int32 := match o with
  | some j => as_ a j
  | none => 0
def aEnv (a : aS) (p : Nat) (o : Option Nat) (k : Nat) : Int32 := if k = 0 then as_ a p else if k = 1 then aNx a o else if k = 2 then am a p else if k = 3 then ah a else if k = 4 then ac a else nI (ar a).length
def aOth (o : Option Nat) : Int32 := match o with
  | some j => nI j
  | none => -1
theorem c_named {σ : z_Mem} {c p : Nat} {a : aS} {o : Option Nat} {w : Int32} (h : cM σ c a) (hp : p < 6) (ho : ∀ j, o = some j → j < 6) (hw : 0 ≤ w.toInt) : fX0_named c w (nI p) (aOth o) σ = some (aEnv a p o (z_x w), σ) := by
  obtain ⟨g1, g2, g3, g4, g5, g6, g7⟩ := h
  have hx : ∀ n : Nat, n < 2 ^ 31 → (z_x w = n ↔ w = nI n) := by
    intro n hn
    constructor
    · intro q
      apply Int32.toInt_inj.mp
      rw [nI_toInt hn, ← q]
      show w.toInt = (w.toInt.toNat : Int)
      omega
    · rintro rfl
      exact z_xN hn
  have hoth : (if aOth o < 0 then (some ((0 : Int32), σ)) else (if (6 : Int32) ≤ aOth o then (some ((0 : Int32), σ)) else (z_gd (z_in (aOth o) 6) (some (σ.1 (c + 3) (z_x (aOth o)), σ))))) = some (aNx a o, σ) := by
    match o, ho with
    | none, _ => exact if_pos (by decide)
    | some j, ho =>
      have hj := ho j rfl
      show (if nI j < 0 then (some ((0 : Int32), σ)) else (if (6 : Int32) ≤ nI j then (some ((0 : Int32), σ)) else (z_gd (z_in (nI j) 6) (some (σ.1 (c + 3) (z_x (nI j)), σ))))) = some (as_ a j, σ)
      rw [if_neg (nI_pos (by omega)), if_neg (z_nle 6 6 (by decide) hj (by decide)), z_gdT (z_inN hj (by decide)), z_xN (by omega), (g6 j hj).2.2]
  unfold fX0_named aEnv
  have e0 := hx 0 (by decide)
  have e1 := hx 1 (by decide)
  have e2 := hx 2 (by decide)
  have e3 := hx 3 (by decide)
  have e4 := hx 4 (by decide)
  simp only [e0, e1, e2, e3, e4]
  rw [show nI 0 = (0 : Int32) by decide, show nI 1 = (1 : Int32) by decide, show nI 2 = (2 : Int32) by decide, show nI 3 = (3 : Int32) by decide, show nI 4 = (4 : Int32) by decide]
  have hp0 : ¬ (nI p : Int32) < 0 := nI_pos (by omega)
  have hp6 : ¬ (6 : Int32) ≤ nI p := z_nle 6 6 (by decide) hp (by decide)
  rw [if_neg hp0, if_neg hp6, if_neg hp0, if_neg hp6]
  simp only [z_gdT (z_inN hp (by decide)), z_xN (show p < 2 ^ 31 by omega), (g6 p hp).1, (g6 p hp).2.1, (g6 p hp).2.2, g2, g3, g4]
  rw [hoth]
  repeat' split
  all_goals rfl
/-- a part of a TEXT lies in the codes from s on and says v -/
def cSeg (σ : z_Mem) (s t : Nat) (v : (Nat → Int32) → Int32) : Prop := ∃ L : List Int32, t = s + L.length ∧ t ≤ 960 ∧ (∀ k, k < L.length → σ.1 2 (s + k) = L.getD k 0) ∧ ∀ e, zrun e L [] = some [v e]
abbrev zTV : Type := Nat → Nat → (Nat → Int32) → Int32
/-- the class keeps n TEXTS that say tv -/
def cT (σ : z_Mem) (tv : zTV) (n : Nat) : Prop := σ.1 1 3 = nI n ∧ n ≤ 6 ∧ ∀ t, t < n → ∃ e0 e1 e2 : Nat, σ.1 3 (3 * t) = nI e0 ∧ σ.1 3 (3 * t + 1) = nI e1 ∧ σ.1 3 (3 * t + 2) = nI e2 ∧ e2 ≤ 160 * t + 160 ∧ cSeg σ (160 * t) e0 (tv t 0) ∧ cSeg σ e0 e1 (tv t 1) ∧ cSeg σ e1 e2 (tv t 2)
theorem cT_kept {S : Nat → Prop} {σ σ' : z_Mem} {tv : zTV} {n : Nat} (h : cT σ tv n) (hk : cK S σ σ') (h1 : ¬ S 1) (h2 : ¬ S 2) (h3 : ¬ S 3) : cT σ' tv n := by
  have e1 := hk 1 h1
  have e2 := hk 2 h2
  have e3 := hk 3 h3
  unfold cT cSeg
  rw [e1, e2, e3]
  exact h
theorem c_value {σ : z_Mem} {c p k n : Nat} {a : aS} {o : Option Nat} {tv : zTV} (h : cM σ c a) (hT : cT σ tv n) (hr : au a < n) (hk : k < 3) (hp : p < 6) (ho : ∀ j, o = some j → j < 6) (hc : 5 ≤ c) : z_R (fX4_value c (nI k) (nI p) (aOth o) σ) (fun r σ' => r = tv (au a) k (aEnv a p o) ∧ cK (fun k => k = 4) σ σ') := by
  obtain ⟨t1, t2, t3⟩ := hT
  obtain ⟨e0, e1, e2, q0, q1, q2, q3, s0, s1, s2⟩ := t3 _ hr
  have hnam : ∀ (w : Int32) (σ' : z_Mem), cK (fun k => k = 4) σ σ' → 0 ≤ w.toInt → fX0_named c w (nI p) (aOth o) σ' = some (aEnv a p o (z_x w), σ') := by
    intro w σ' hs hw
    exact c_named (cM_kept h hs (fun i hi => by rcases (show i = 0 ∨ i = 1 ∨ i = 2 ∨ i = 3 ∨ i = 4 by omega) with rfl | rfl | rfl | rfl | rfl <;> omega)) hp ho hw
  have seg : ∀ (s t : Nat) (v : (Nat → Int32) → Int32), cSeg σ s t v → z_R (fX4_value_90 c z_FU (nI p) (aOth o) (z_mn (nI t) 960) 0 (nI s) σ) (fun r σ' => r = v (aEnv a p o) ∧ cK (fun k => k = 4) σ σ') := by
    intro s t v hs
    obtain ⟨L, l1, l2, l3, l4⟩ := hs
    have em : z_mn (nI t) 960 = nI t := by
      unfold z_mn
      rw [if_neg]
      rw [show (960 : Int32) = nI 960 by decide]
      exact nI_nlt l2 (by decide)
    rw [em]
    subst l1
    have := c_run (c := c) (one := nI p) (other := aOth o) (e := aEnv a p o) L z_FU s [] (v (aEnv a p o)) σ hnam l3 l2 (by simp) (fun j hj => by simp at hj) (l4 _) (by simp only [z_FU]; omega)
    simpa [nI_0] using this
  have er := h.2.2.2.2.1
  have m3 : nI (au a) * (3 : Int32) = nI (3 * au a) := by rw [show (3 : Int32) = nI 3 by decide, pk_mul]; congr 1; omega
  have m160 : nI (au a) * (160 : Int32) = nI (160 * au a) := by rw [show (160 : Int32) = nI 160 by decide, pk_mul]; congr 1; omega
  unfold fX4_value
  simp only [er, t1, m3, m160, nI_add]
  rw [if_neg (nI_pos (by omega)), if_neg (nI_ge hr (by omega)), if_neg (z_nle 6 6 (by decide) (by omega) (by decide)), if_neg (nI_pos (by omega)), if_pos (by rw [show (3 : Int32) = nI 3 by decide]; exact nI_lt hk (by decide))]
  rw [z_gdT (z_inN (by omega) (by decide)), z_xN (by omega)]
  rcases (show k = 0 ∨ k = 1 ∨ k = 2 by omega) with rfl | rfl | rfl
  · rw [if_pos nI_0, Nat.add_zero, q0]
    exact seg _ _ _ s0
  · rw [if_neg (by decide), nI_sub1, z_gdT (z_inN (by omega) (by decide)), z_xN (by omega), q0, q1]
    exact seg _ _ _ s1
  · rw [if_neg (by decide), show nI (3 * au a + 2) - (1 : Int32) = nI (3 * au a + 1) from nI_sub1, z_gdT (z_inN (by omega) (by decide)), z_xN (by omega), q1, q2]
    exact seg _ _ _ s2
