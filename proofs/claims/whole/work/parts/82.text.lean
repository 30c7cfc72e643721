/-! text() -/
theorem cSeg_below {σ σ' : z_Mem} {s e N : Nat} {v : pV} (h : cSeg σ s e v) (he : e ≤ N) (hk : ∀ j, j < N → σ'.1 2 j = σ.1 2 j) : cSeg σ' s e v := by
  obtain ⟨C, h1, h2, h3, h4⟩ := h
  refine ⟨C, h1, h2, fun k hk2 => ?_, h4⟩
  rw [hk _ (by omega)]
  exact h3 k hk2
theorem cSeg_new {σ : z_Mem} {s : Nat} {C : List Int32} {V : pV} (h : ∀ j, j < C.length → σ.1 2 (s + j) = C.getD j 0) (hs : s + C.length ≤ 960) (hV : zSays C V 31) : cSeg σ s (s + C.length) V := by
  refine ⟨C, rfl, hs, h, fun e => ?_⟩
  have := hV e [] [] (by simp)
  rw [List.append_nil] at this
  rw [this]
  rfl
theorem cSeg_le {σ : z_Mem} {s e : Nat} {v : pV} (h : cSeg σ s e v) : s ≤ e := by
  obtain ⟨C, h1, -⟩ := h
  omega
theorem cT_below {σ σ' : z_Mem} {tv : zTV} {n : Nat} (h : cT σ tv n) (h3 : σ'.1 1 3 = nI n) (hc : ∀ j, j < 160 * n → σ'.1 2 j = σ.1 2 j) (he : ∀ j, j < 3 * n → σ'.1 3 j = σ.1 3 j) : cT σ' tv n := by
  obtain ⟨g1, g2, g3⟩ := h
  refine ⟨h3, g2, fun t ht => ?_⟩
  obtain ⟨e0, e1, e2, q0, q1, q2, q3, s0, s1, s2⟩ := g3 t ht
  have l0 := cSeg_le s0
  have l1 := cSeg_le s1
  have l2 := cSeg_le s2
  refine ⟨e0, e1, e2, by rw [he _ (by omega)]; exact q0, by rw [he _ (by omega)]; exact q1, by rw [he _ (by omega)]; exact q2, q3, cSeg_below s0 (N := 160 * n) (by omega) hc, cSeg_below s1 (N := 160 * n) (by omega) hc, cSeg_below s2 (N := 160 * n) (by omega) hc⟩
/-- one TEXT more -/
def tvNew (tv : zTV) (n : Nat) (a b c : pV) : zTV := fun t k => if t = n then (if k = 0 then a else if k = 1 then b else c) else tv t k
theorem tvNew_o {tv : zTV} {n t : Nat} {a b c : pV} (h : t ≠ n) : tvNew tv n a b c t = tv t := by
  funext k
  unfold tvNew
  rw [if_neg h]
theorem cT_new {σ σ' : z_Mem} {tv : zTV} {n : Nat} {a b c : pV × List Int32} (h : cT σ tv n) (hn : n < 6) (h3 : σ'.1 1 3 = nI (n + 1)) (hc : ∀ j, j < 160 * n → σ'.1 2 j = σ.1 2 j) (he : ∀ j, j < 3 * n → σ'.1 3 j = σ.1 3 j) (hlen : a.2.length + b.2.length + c.2.length ≤ 160) (x0 : σ'.1 3 (3 * n) = nI (160 * n + a.2.length)) (x1 : σ'.1 3 (3 * n + 1) = nI (160 * n + a.2.length + b.2.length)) (x2 : σ'.1 3 (3 * n + 2) = nI (160 * n + a.2.length + b.2.length + c.2.length)) (y0 : ∀ j, j < a.2.length → σ'.1 2 (160 * n + j) = a.2.getD j 0) (y1 : ∀ j, j < b.2.length → σ'.1 2 (160 * n + a.2.length + j) = b.2.getD j 0) (y2 : ∀ j, j < c.2.length → σ'.1 2 (160 * n + a.2.length + b.2.length + j) = c.2.getD j 0) (z0 : zSays a.2 a.1 31) (z1 : zSays b.2 b.1 31) (z2 : zSays c.2 c.1 31) : cT σ' (tvNew tv n a.1 b.1 c.1) (n + 1) := by
  obtain ⟨g1, g2, g3⟩ := h
  refine ⟨h3, by omega, fun t ht => ?_⟩
  by_cases e : t = n
  · subst e
    refine ⟨_, _, _, x0, x1, x2, by omega, ?_, ?_, ?_⟩
    · rw [show tvNew tv t a.1 b.1 c.1 t 0 = a.1 by unfold tvNew; rw [if_pos rfl, if_pos rfl]]
      exact cSeg_new y0 (by omega) z0
    · rw [show tvNew tv t a.1 b.1 c.1 t 1 = b.1 by unfold tvNew; rw [if_pos rfl, if_neg (by omega), if_pos rfl]]
      exact cSeg_new y1 (by omega) z1
    · rw [show tvNew tv t a.1 b.1 c.1 t 2 = c.1 by unfold tvNew; rw [if_pos rfl, if_neg (by omega), if_neg (by omega)]]
      exact cSeg_new y2 (by omega) z2
  · obtain ⟨e0, e1, e2, q0, q1, q2, q3, s0, s1, s2⟩ := g3 t (by omega)
    have l0 := cSeg_le s0
    have l1 := cSeg_le s1
    have l2 := cSeg_le s2
    rw [tvNew_o e]
    exact ⟨e0, e1, e2, by rw [he _ (by omega)]; exact q0, by rw [he _ (by omega)]; exact q1, by rw [he _ (by omega)]; exact q2, q3, cSeg_below s0 (N := 160 * n) (by omega) hc, cSeg_below s1 (N := 160 * n) (by omega) hc, cSeg_below s2 (N := 160 * n) (by omega) hc⟩
theorem mT_below {τ τ' : z_Mem} {tv : zTV} {n : Nat} (h : mT τ tv n) (h3 : τ'.1 0 3 = nI n) (h1 : ∀ j, j < 160 * n → τ'.1 1 j = τ.1 1 j) (h2 : ∀ j, j < n → τ'.1 2 j = τ.1 2 j) : mT τ' tv n := by
  obtain ⟨g1, g2, g3⟩ := h
  exact ⟨h3, g2, fun t ht k hk s q1 q2 => g3 t ht k hk s (fun i hi => (q1 i hi).trans (h1 i hi)) (fun i hi => (q2 i hi).trans (h2 i hi))⟩
theorem mK_tx {k : Nat} {τ τ' : z_Mem} {r : Option ((pV × List Int32) × (pV × List Int32) × (pV × List Int32)) × Nat} {v : Int32} (h : mTx k τ τ' r v) : mK τ τ' := ⟨h.1.1, fun j hj => h.1.2 j (by omega)⟩
theorem mT_new {τ τ' : z_Mem} {tv : zTV} {n : Nat} {L : List Int32} {a b c : pV × List Int32} {s : Nat} (hL : tOk L) (h : mT τ tv n) (hn : n < 6) (h3 : τ'.1 0 3 = nI (n + 1)) (h1 : ∀ j, j < 160 * n → τ'.1 1 j = τ.1 1 j) (h2 : ∀ j, j < n → τ'.1 2 j = τ.1 2 j) (hl : τ'.1 2 n = nI L.length) (hb : ∀ i, i < L.length → τ'.1 1 (160 * n + i) = L.getD i 0) (hR : pRead L = (some (a, b, c), s)) : mT τ' (tvNew tv n a.1 b.1 c.1) (n + 1) := by
  have hl160 := hL.1
  obtain ⟨g1, g2, g3⟩ := h
  refine ⟨h3, by omega, fun t ht k hk x q1 q2 => ?_⟩
  by_cases e : t = n
  · subst e
    have R := m_read (k := k) (τ := x) hL hn hk (by rw [q2 _ (by omega)]; exact hl) (fun i hi => by rw [q1 _ (by omega)]; exact hb i hi)
    rw [hR] at R
    refine z_R_mono R (fun v x' hh => ⟨?_, mK_tx hh, fun q hq => hh.1.2 _ (by omega)⟩)
    rw [hh.2.2]
    unfold tvNew
    rw [if_pos rfl]
    rfl
  · rw [tvNew_o e]
    exact g3 t (by omega) k hk x (fun i hi => (q1 i (by omega)).trans (h1 i hi)) (fun i hi => (q2 i (by omega)).trans (h2 i hi))
theorem pRead_le {L : List Int32} (hL : tOk L) : (pRead L).2 ≤ 160 := by
  have hl := hL.1
  unfold pRead
  have W := pPart_W hL (k := 0) (p := 0) (Nat.zero_le _)
  generalize pPart L 0 0 = r at W ⊢
  rcases r with ⟨_ | a, p1⟩
  · exact Nat.le_trans (tS_le W.2) hl
  have h1 : p1 ≤ L.length := W.2.1
  show (match pPart L 1 p1 with
    | (none, p) => (none, tS L p)
    | (some b, p2) => (match pPart L 2 p2 with
      | (none, p) => (none, tS L p)
      | (some c, p3) => if tT L p3 = 0 then ((some (a, b, c), 0) : Option ((pV × List Int32) × (pV × List Int32) × (pV × List Int32)) × Nat) else (none, tS L p3))).2 ≤ 160
  have W := pPart_W hL (k := 1) (p := p1) h1
  generalize pPart L 1 p1 = r at W ⊢
  rcases r with ⟨_ | b, p2⟩
  · exact Nat.le_trans (tS_le W.2) hl
  have h2 : p2 ≤ L.length := W.2.1
  show (match pPart L 2 p2 with
      | (none, p) => (none, tS L p)
      | (some c, p3) => if tT L p3 = 0 then ((some (a, b, c), 0) : Option ((pV × List Int32) × (pV × List Int32) × (pV × List Int32)) × Nat) else (none, tS L p3)).2 ≤ 160
  have W := pPart_W hL (k := 2) (p := p2) h2
  generalize pPart L 2 p2 = r at W ⊢
  rcases r with ⟨_ | c, p3⟩
  · exact Nat.le_trans (tS_le W.2) hl
  have h3 : p3 ≤ L.length := W.2.1
  show (if tT L p3 = 0 then ((some (a, b, c), 0) : Option ((pV × List Int32) × (pV × List Int32) × (pV × List Int32)) × Nat) else (none, tS L p3)).2 ≤ 160
  split
  · exact Nat.zero_le _
  · exact Nat.le_trans (tS_le h3) hl
def mTxt (g : zG) (res : Option ((pV × List Int32) × (pV × List Int32) × (pV × List Int32)) × Nat) (v : Int32) (τ' : z_Mem) : Prop := match res with
  | (none, s) => v = (-100 : Int32) - nI s ∧ mG τ' (gA g, gB g, gV g, gN g, [], gS g)
  | (some (a, b, c), _) => v = nI (gN g) ∧ mG τ' (gA g, gB g, tvNew (gV g) (gN g) a.1 b.1 c.1, gN g + 1, [], gS g)
section ZPUB23
theorem m_text_loop {g : zG} {τ0 : z_Mem} {P : Int32 → z_Mem → Prop} (hm : mG τ0 g) (hw : gW g) (hn : gN g < 6) (hK : ∀ τ : z_Mem, (∀ k, k ≠ 1 → τ.1 k = τ0.1 k) → (∀ j, j < 160 * gN g → τ.1 1 j = τ0.1 1 j) → (∀ i, i < (gP g).length → τ.1 1 (160 * gN g + i) = (gP g).getD i 0) → z_R (z_gd (z_in (τ.1 0 3) 6) (z_st (z_pt τ 2 (z_x (τ.1 0 3)) (τ.1 0 6)) (fun s1 => z_st (z_pt s1 0 6 (0 : Int32)) (fun s2 => z_bd (fX6_read (s2.1 0 3) (0 : Int32) s2) (fun r3 s3 => if s3.1 0 26 = 0 then (z_st (z_pt s3 0 3 ((s3.1 0 3) + (1 : Int32))) (fun s4 => some ((s4.1 0 3) - (1 : Int32), s4))) else (some ((-100 : Int32) - (s3.1 0 27), s3))))))) P) : ∀ (m q i : Nat) (τ : z_Mem), (∀ k, k ≠ 1 → τ.1 k = τ0.1 k) → (∀ j, j < 160 * gN g → τ.1 1 j = τ0.1 1 j) → (∀ j, j < i → τ.1 1 (160 * gN g + j) = (gP g).getD j 0) → i + m = (gP g).length → m < q → z_R (fX6_text_14 q (nI i) τ) P
  | m, 0, i, τ, _, _, _, _, h => absurd h (Nat.not_lt_zero _)
  | 0, q + 1, i, τ, c1, c2, c3, hi, hq => by
    have hl := hw.2.2.2.1
    have e6 : τ.1 0 6 = nI (gP g).length := by rw [c1 0 (by decide)]; exact hm.2.2.2.1.1
    rw [fX6_text_14, e6, if_pos (nI_le (by omega) (by omega)), ← e6]
    have : i = (gP g).length := by omega
    subst this
    exact hK τ c1 c2 c3
  | m + 1, q + 1, i, τ, c1, c2, c3, hi, hq => by
    have hl := hw.2.2.2.1
    have e6 : τ.1 0 6 = nI (gP g).length := by rw [c1 0 (by decide)]; exact hm.2.2.2.1.1
    have e3 : τ.1 0 3 = nI (gN g) := by rw [c1 0 (by decide)]; exact hm.2.2.1.1
    have et : τ.1 3 i = (gP g).getD i 0 := by rw [c1 3 (by decide)]; exact hm.2.2.2.1.2 i (by omega)
    have e160 : (160 : Int32) * nI (gN g) + nI i = nI (160 * gN g + i) := by rw [show (160 : Int32) = nI 160 by decide, pk_mul, nI_add]
    rw [fX6_text_14, e6, e3, e160, if_neg (nI_ge (by omega) (by omega)), z_gdT (z_inN (by omega) (by decide)), z_gdT (z_inN (by omega) (by decide)), z_stE, z_xN (by omega), z_xN (by omega), nI_1, et]
    refine m_text_loop hm hw hn hK m q (i + 1) _ (fun k hk => by rw [z_pt_r hk]; exact c1 k hk) (fun j hj => by rw [z_pt_2 (by omega)]; exact c2 j hj) (fun j hj => ?_) (by omega) (by omega)
    by_cases e : j = i
    · rw [e, z_pt_1]
    · rw [z_pt_2 (by omega)]; exact c3 j (by omega)
variable {σ τ : z_Mem} {g : zG}
theorem p_text (hc : cG σ g) (hm : mG τ g) (hw : gW g) : zSame (fX5_text σ) (fX6_text τ) := by
  have hn6 := hw.2.2.1
  have hl := hw.2.2.2.1
  have hL : tOk (gP g) := ⟨hl, hw.2.2.2.2.1⟩
  unfold fX5_text fX6_text
  rw [hc.2.2.1.1, hm.2.2.1.1]
  by_cases e6 : gN g = 6
  · rw [if_neg (by rw [e6]; decide), if_pos (by rw [e6]; decide)]
    exact zSame_ret hc hm hw
  have hn : gN g < 6 := by omega
  rw [if_pos (by rw [show (6 : Int32) = nI 6 by decide]; exact nI_lt hn (by decide)), if_neg (by rw [show (6 : Int32) = nI 6 by decide, z_eq_nI (by omega) (by omega)]; exact e6)]
  obtain ⟨b, s1, f1, hCR, hCT⟩ := c_read hL hn hc.2.2.1.1 hc.2.2.2.1
  obtain ⟨d1, d2, d3, d4, d5⟩ := hc
  have hk1 : ∀ {S : Nat → Prop}, (∀ q, q = 1 ∨ q = 2 ∨ q = 3 ∨ q = 5 → S q) → cK S σ s1 := fun hS q hq => hCR.1 q (fun e => hq (hS q (Or.inl e))) (fun e => hq (hS q (Or.inr (Or.inl e)))) (fun e => hq (hS q (Or.inr (Or.inr (Or.inl e))))) (fun e => hq (hS q (Or.inr (Or.inr (Or.inr e)))))
  have hS : cK (fun q => q = 1 ∨ q = 2 ∨ q = 3 ∨ q = 5) σ s1 := hk1 (fun q h => h)
  have C1 : cM s1 7 (gA g) := cM_kept d1 hS (fun i hi => by omega)
  have C2 : cB s1 (gB g) := cB_kept d2 hS (by omega) (fun i hi => by omega)
  have C4 : cTp s1 [] := ⟨hCR.2.2.2.1, fun i hi => absurd hi (by simp)⟩
  have C5 : ∀ s, s < 4 → cSheet s1 s (gS g s) := fun s hs => cSheet_kept (d5 s hs) hS (by omega) (by omega)
  obtain ⟨w1, w2, w3, w4, w5, w6⟩ := hw
  have hw' : gW g := ⟨w1, w2, w3, w4, w5, w6⟩
  have key : ∀ (res : Option ((pV × List Int32) × (pV × List Int32) × (pV × List Int32)) × Nat), pRead (gP g) = res → z_R (fX6_text_14 z_FU 0 τ) (fun v τ' => mTxt g res v τ') := by
    intro res hres
    have L := m_text_loop (P := fun v τ' => mTxt g res v τ') hm hw' hn (fun x c1 c2 c3 => by
      have e3 : x.1 0 3 = nI (gN g) := by rw [c1 0 (by decide)]; exact hm.2.2.1.1
      have e6x : x.1 0 6 = nI (gP g).length := by rw [c1 0 (by decide)]; exact hm.2.2.2.1.1
      rw [e3, z_gdT (z_inN hn (by decide)), z_stE, z_stE, z_xN (by omega), z_pt_2 (by decide), z_pt_3 (by decide), e3, e6x]
      generalize hy : z_pt (z_pt x 2 (gN g) (nI (gP g).length)) 0 6 0 = y
      have y2 : y.1 2 (gN g) = nI (gP g).length := by rw [← hy, z_pt_3 (by decide), z_pt_1]
      have y2o : ∀ j, j < gN g → y.1 2 j = τ.1 2 j := fun j hj => by rw [← hy, z_pt_3 (by decide), z_pt_2 (by omega), c1 2 (by decide)]
      have y1 : ∀ j, y.1 1 j = x.1 1 j := fun j => by rw [← hy, z_pt_3 (by decide), z_pt_3 (by decide)]
      have yk : ∀ k, k ≠ 0 → k ≠ 1 → k ≠ 2 → y.1 k = τ.1 k := fun k a b c => by rw [← hy, z_pt_r a, z_pt_r c]; exact c1 k b
      have y0 : ∀ j, j ≠ 6 → y.1 0 j = τ.1 0 j := fun j hj => by rw [← hy, z_pt_2 hj, z_pt_3 (by decide), c1 0 (by decide)]
      have y6 : y.1 0 6 = 0 := by rw [← hy, z_pt_1]
      obtain ⟨v, z, f, R⟩ := m_read (k := 0) (τ := y) hL hn (by omega) y2 (fun i hi => by rw [y1]; exact c3 i hi)
      have f' : fX6_read (nI (gN g)) 0 y = some (v, z) := f
      rw [z_bdE f']
      obtain ⟨⟨z1, z0⟩, R⟩ := R
      rw [hres] at R
      obtain ⟨m1, m2, m3, m4, m5⟩ := hm
      have G : ∀ (u : z_Mem) (tv : zTV) (N : Nat), (∀ k, k ≠ 0 → u.1 k = z.1 k) → (∀ j, j ≠ 3 → u.1 0 j = z.1 0 j) → mT u tv N → mG u (gA g, gB g, tv, N, [], gS g) := fun u tv N u1 u0 hT => by
        have uk : ∀ k, k ≠ 0 → k ≠ 1 → k ≠ 2 → u.1 k = τ.1 k := fun k a b c => (u1 k a).trans ((z1 k a).trans (yk k a b c))
        have uz : ∀ j, j ≠ 3 → j ≠ 6 → (j < 19 ∨ 27 < j) → u.1 0 j = τ.1 0 j := fun j a b c => (u0 j a).trans ((z0 j c).trans (y0 j b))
        refine ⟨?_, ?_, hT, ⟨?_, fun i hi => absurd hi (Nat.not_lt_zero _)⟩, fun s hs => ?_⟩
        · unfold mM
          rw [uz 10 (by omega) (by omega) (by omega), uz 12 (by omega) (by omega) (by omega), uz 7 (by omega) (by omega) (by omega), uz 8 (by omega) (by omega) (by omega), uz 4 (by omega) (by omega) (by omega), uk 4 (by omega) (by omega) (by omega), uk 5 (by omega) (by omega) (by omega)]
          exact m1
        · show mB u (gB g)
          unfold mB
          rw [uz 35 (by omega) (by omega) (by omega), uz 36 (by omega) (by omega) (by omega), uz 37 (by omega) (by omega) (by omega), uz 38 (by omega) (by omega) (by omega), uz 39 (by omega) (by omega) (by omega), uk 9 (by omega) (by omega) (by omega), uk 10 (by omega) (by omega) (by omega)]
          exact m2
        · rw [u0 6 (by decide), z0 6 (by omega)]; exact y6
        · show mSheet u s (gS g s)
          unfold mSheet
          rw [uk 11 (by omega) (by omega) (by omega), uk 12 (by omega) (by omega) (by omega), uk 13 (by omega) (by omega) (by omega), uk 14 (by omega) (by omega) (by omega)]
          exact m5 s hs
      have z3 : z.1 0 3 = nI (gN g) := by rw [z0 3 (by omega), y0 3 (by decide)]; exact m3.1
      have zr1 : ∀ j, z.1 1 j = x.1 1 j := fun j => by rw [z1 1 (by decide)]; exact y1 j
      match res, R with
      | (none, s), ⟨b1, x1⟩ =>
        rw [if_neg (z_b1 b1), x1]
        exact z_R_some ⟨rfl, G z (gV g) (gN g) (fun _ _ => rfl) (fun _ _ => rfl) (mT_below m3 z3 (fun j hj => by rw [zr1]; exact c2 j hj) (fun j hj => by rw [z1 2 (by decide)]; exact y2o j hj))⟩
      | (some (a, b', c), s), ⟨b0, hv⟩ =>
        rw [if_pos b0, z_stE, z3, nI_1, z_pt_1, nI_sub1]
        refine z_R_some ⟨rfl, G _ _ _ (fun k hk => z_pt_r hk) (fun j hj => z_pt_2 hj) (mT_new hL m3 hn z_pt_1 (fun j hj => ?_) (fun j hj => ?_) ?_ (fun i hi => ?_) hres)⟩
        · rw [z_pt_3 (by decide), zr1]; exact c2 j hj
        · rw [z_pt_3 (by decide), z1 2 (by decide)]; exact y2o j hj
        · rw [z_pt_3 (by decide), z1 2 (by decide)]; exact y2
        · rw [z_pt_3 (by decide), zr1]; exact c3 i hi) (gP g).length z_FU 0 τ (fun _ _ => rfl) (fun _ _ => rfl) (fun j hj => by omega) (by omega) (by simp only [z_FU]; omega)
    rw [nI_0] at L
    exact L
  rw [z_bdE f1]
  obtain ⟨v2, t2, f2, R2⟩ := key _ rfl
  rw [f2]
  generalize hres : pRead (gP g) = res at hCT R2
  match res, hCT, R2 with
  | (none, s), ⟨hb, h13⟩, ⟨hv, hm2⟩ =>
    have hs31 : s < 2 ^ 31 := by
      have := pRead_le hL
      rw [hres] at this
      have h' : s ≤ 160 := this
      omega
    rw [hb, if_neg (nI_neg1 hs31), hv]
    exact zSame_ret (g := (gA g, gB g, gV g, gN g, [], gS g)) ⟨C1, C2, cT_below d3 h13 hCR.2.1 hCR.2.2.1, C4, C5⟩ hm2 ⟨w1, w2, w3, Nat.zero_le _, fun x hx => absurd hx List.not_mem_nil, w6⟩
  | (some (a, b', c), s), ⟨hb, h13, x1, x2, x3, x4, x5, x6, x7, x8, x9, x10⟩, ⟨hv, hm2⟩ =>
    rw [hb, if_pos rfl, h13, nI_sub1, hv]
    refine zSame_ret (g := (gA g, gB g, tvNew (gV g) (gN g) a.1 b'.1 c.1, gN g + 1, [], gS g)) ⟨C1, C2, cT_new d3 hn h13 hCR.2.1 hCR.2.2.1 x1 x2 x3 x4 x5 x6 x7 x8 x9 x10, C4, C5⟩ hm2 ⟨⟨w1.1, Nat.lt_succ_of_lt w1.2.1, w1.2.2⟩, fun q hq => ⟨(w2 q hq).1, Nat.lt_succ_of_lt (w2 q hq).2.1, (w2 q hq).2.2⟩, ?_, Nat.zero_le _, fun x hx => absurd hx List.not_mem_nil, w6⟩
    show gN g + 1 ≤ 6
    omega
end ZPUB23
