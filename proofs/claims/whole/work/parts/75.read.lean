/-! a whole TEXT -/
section ZRD2
variable (L : List Int32)
def pPart (k p : Nat) : pR := if tT L p = nI (262 + k) then (match pG L 36 0 0 (tN L p) with
    | (none, p2) => (none, p2)
    | (some (V, C), p2) => if tT L p2 = 59 then (some (V, C), tN L p2) else (none, p2)) else (none, p)
def pRead : Option ((pV × List Int32) × (pV × List Int32) × (pV × List Int32)) × Nat := match pPart L 0 0 with
  | (none, p) => (none, tS L p)
  | (some a, p1) => (match pPart L 1 p1 with
    | (none, p) => (none, tS L p)
    | (some b, p2) => (match pPart L 2 p2 with
      | (none, p) => (none, tS L p)
      | (some c, p3) => if tT L p3 = 0 then (some (a, b, c), 0) else (none, tS L p3)))
end ZRD2
theorem pPart_W {L : List Int32} (hL : tOk L) {k p : Nat} (hp : p ≤ L.length) : pW L 31 p (pPart L k p) := by
  unfold pPart
  by_cases e : tT L p = nI (262 + k)
  · rw [if_pos e]
    have hne : ¬ tT L p = 0 ∨ ∃ q, q = p := Or.inr ⟨p, rfl⟩
    have hnl := tN_le hL hp
    have hge := tN_ge' (L := L) (p := p)
    have W := pG_W hL 36 0 0 (tN L p) (by omega) (by omega) hnl
    generalize pG L 36 0 0 (tN L p) = r at W ⊢
    rcases r with ⟨_ | ⟨V, C⟩, p2⟩
    · exact ⟨Nat.le_trans hge W.1, W.2⟩
    · obtain ⟨w1, w2, w3, w4⟩ := W
      show pW L 31 p (if tT L p2 = 59 then _ else _)
      by_cases e2 : tT L p2 = 59
      · rw [if_pos e2]
        have h2 := tN_ge' (L := L) (p := p2)
        exact ⟨by omega, tN_le hL w2, by omega, w4⟩
      · rw [if_neg e2]
        exact ⟨by omega, w2⟩
  · rw [if_neg e]
    exact ⟨Nat.le_refl _, hp⟩
def cE (w e : Nat) (σ σ' : z_Mem) : Prop := (∀ q, q ≠ 1 → q ≠ 2 → q ≠ 3 → q ≠ 5 → σ'.1 q = σ.1 q) ∧ (∀ j, j ≠ 4 → σ'.1 1 j = σ.1 1 j) ∧ (∀ j, j < w → σ'.1 2 j = σ.1 2 j) ∧ (∀ j, j < 3 → σ'.1 5 j = σ.1 5 j) ∧ ∀ j, j < e → σ'.1 3 j = σ.1 3 j
theorem cE_F {w e : Nat} {σ σ' : z_Mem} (h : cF w σ σ') : cE w e σ σ' := ⟨fun q a b _ d => h.1 q a b d, h.2.1, h.2.2.1, h.2.2.2, fun j _ => by rw [h.1 3 (by decide) (by decide) (by decide)]⟩
theorem cE_tr {w w' e e' : Nat} {σ σ' σ'' : z_Mem} (h : cE w e σ σ') (h' : cE w' e' σ' σ'') (hw : w ≤ w') (he : e ≤ e') : cE w e σ σ'' := ⟨fun q a b c d => (h'.1 q a b c d).trans (h.1 q a b c d), fun j a => (h'.2.1 j a).trans (h.2.1 j a), fun j a => (h'.2.2.1 j (by omega)).trans (h.2.2.1 j a), fun j a => (h'.2.2.2.1 j a).trans (h.2.2.2.1 j a), fun j a => (h'.2.2.2.2 j (by omega)).trans (h.2.2.2.2 j a)⟩
theorem cTp_E {w e : Nat} {σ σ' : z_Mem} {L : List Int32} (h : cTp σ L) (hk : cE w e σ σ') : cTp σ' L := by
  unfold cTp
  rw [hk.2.2.2.1 2 (by omega), hk.1 6 (by omega) (by omega) (by omega) (by omega)]
  exact h
def cPt (L : List Int32) (n k w : Nat) (σ : z_Mem) (r : pR) (b : Int32) (σ' : z_Mem) : Prop := cE w (3 * n + k) σ σ' ∧ match r with
  | (none, p') => b = 0 ∧ σ'.1 5 4 = nI (tS L p')
  | (some (_, C), p') => b = 1 ∧ cR σ' L p' ∧ σ'.1 1 4 = nI (w + C.length) ∧ (∀ j, j < C.length → σ'.1 2 (w + j) = C.getD j 0) ∧ σ'.1 3 (3 * n + k) = nI (w + C.length)
theorem c_part {L : List Int32} (hL : tOk L) {n k w p : Nat} {σ : z_Mem} (hk : k < 3) (hn : n < 6) (h13 : σ.1 1 3 = nI n) (hp : p ≤ L.length) (ht : cTp σ L) (hr : cR σ L p) (h4 : σ.1 1 4 = nI w) (hroom : w + (L.length - p) ≤ 960) : z_R (fX2_readPart (nI k) σ) (fun b σ' => cPt L n k w σ (pPart L k p) b σ') := by
  have e262 : (262 : Int32) + nI k = nI (262 + k) := by rw [show (262 : Int32) = nI 262 by decide, nI_add]
  unfold fX2_readPart pPart
  rw [hr.2.2.1, e262]
  by_cases e : tT L p = nI (262 + k)
  rotate_left
  · rw [if_neg e, if_neg e]
    exact z_R_some ⟨cE_F cF_rf, rfl, hr.2.1⟩
  rw [if_pos e, if_pos e]
  have hnl := tN_le hL hp
  have hge := tN_ge' (L := L) (p := p)
  obtain ⟨u, s1, f1, a1, r1⟩ := c_advance hL ht hr.1 hnl
  have h41 : s1.1 1 4 = nI w := by rw [a1.1 1 (by omega)]; exact h4
  have hG := c_readers hL 36 0 0 64 (by omega) (by omega) (by omega) (by decide)
  obtain ⟨b2, s2, f2, R2⟩ := hG (tN L p) w s1 hnl (cTp_A ht a1) r1 h41 (by omega)
  have f2' : fX2_readEither 0 s1 = some (b2, s2) := f2
  rw [z_bdE f1, z_bdE f2']
  have W2 := pG_W hL 36 0 0 (tN L p) (by omega) (by omega) hnl
  clear f2 f2'
  generalize pG L 36 0 0 (tN L p) = r at R2 W2 ⊢
  rcases r with ⟨_ | ⟨V, C⟩, p2⟩
  · obtain ⟨c2, b0, f5, -⟩ := R2
    rw [b0, if_pos rfl]
    exact z_R_some ⟨cE_F (cF_tr (cF_A a1) c2 (Nat.le_refl _)), rfl, f5⟩
  · obtain ⟨c2, b1, r2, g4, gC⟩ := R2
    obtain ⟨w1, w2, w3, w4⟩ := W2
    rw [b1, if_neg z_10, r2.2.2.1]
    show z_R _ (fun b σ' => cPt L n k w σ (if tT L p2 = 59 then (some (V, C), tN L p2) else (none, p2)) b σ')
    by_cases e2 : tT L p2 = 59
    rotate_left
    · rw [if_neg e2, if_neg e2]
      exact z_R_some ⟨cE_F (cF_tr (cF_A a1) c2 (Nat.le_refl _)), rfl, r2.2.1⟩
    rw [if_pos e2, if_pos e2]
    have t2 := cTp_F (cTp_A ht a1) c2
    obtain ⟨u, s3, f3, a3, r3⟩ := c_advance hL t2 r2.1 (tN_le hL w2)
    rw [z_bdE f3]
    have F3 : cF w σ s3 := cF_tr (cF_tr (cF_A a1) c2 (Nat.le_refl _)) (cF_A a3) (Nat.le_refl _)
    have h133 : s3.1 1 3 = nI n := by rw [F3.2.1 3 (by omega)]; exact h13
    have h43 : s3.1 1 4 = nI (w + C.length) := by rw [a3.1 1 (by omega)]; exact g4
    have em : nI n * (3 : Int32) + nI k = nI (3 * n + k) := by rw [show (3 : Int32) = nI 3 by decide, pk_mul, nI_add, Nat.mul_comm]
    unfold fX4_endPart
    rw [h133, em, if_neg (nI_pos (by omega)), if_neg (z_nle 18 18 (by decide) (by omega) (by decide)), z_gdT (z_inN (by omega) (by decide)), z_stE, z_xN (by omega), h43, z_bdS]
    refine z_R_some ⟨cE_tr (cE_F (e := 3 * n + k) F3) ⟨fun q a b c d => z_pt_r c, fun j _ => z_pt_3 (by decide), fun j _ => z_pt_3 (by decide), fun j _ => z_pt_3 (by decide), fun j hj => z_pt_2 (by omega)⟩ (Nat.le_refl _) (Nat.le_refl _), rfl, ?_, ?_, fun j hj => ?_, z_pt_1⟩
    · obtain ⟨q1, q2, q3, q4⟩ := r3
      refine ⟨?_, ?_, ?_, fun x => ?_⟩
      · rw [z_pt_3 (by decide)]; exact q1
      · rw [z_pt_3 (by decide)]; exact q2
      · rw [z_pt_3 (by decide)]; exact q3
      · rw [z_pt_3 (by decide)]; exact q4 x
    · rw [z_pt_3 (by decide)]; exact h43
    · rw [z_pt_3 (by decide), a3.1 2 (by omega)]; exact gC j hj
/-- what a reading leaves -/
def cRd (n : Nat) (σ σ' : z_Mem) : Prop := (∀ q, q ≠ 1 → q ≠ 2 → q ≠ 3 → q ≠ 5 → σ'.1 q = σ.1 q) ∧ (∀ j, j < 160 * n → σ'.1 2 j = σ.1 2 j) ∧ (∀ j, j < 3 * n → σ'.1 3 j = σ.1 3 j) ∧ σ'.1 5 2 = 0 ∧ ∀ j, j < 2 → σ'.1 5 j = σ.1 5 j
def cTx (n : Nat) (σ σ' : z_Mem) (r : Option ((pV × List Int32) × (pV × List Int32) × (pV × List Int32)) × Nat) (b : Int32) : Prop := cRd n σ σ' ∧ match r with
  | (none, s) => b = nI s ∧ σ'.1 1 3 = nI n
  | (some (a, b', c), _) => b = -1 ∧ σ'.1 1 3 = nI (n + 1) ∧ a.2.length + b'.2.length + c.2.length ≤ 160 ∧ σ'.1 3 (3 * n) = nI (160 * n + a.2.length) ∧ σ'.1 3 (3 * n + 1) = nI (160 * n + a.2.length + b'.2.length) ∧ σ'.1 3 (3 * n + 2) = nI (160 * n + a.2.length + b'.2.length + c.2.length) ∧ (∀ j, j < a.2.length → σ'.1 2 (160 * n + j) = a.2.getD j 0) ∧ (∀ j, j < b'.2.length → σ'.1 2 (160 * n + a.2.length + j) = b'.2.getD j 0) ∧ (∀ j, j < c.2.length → σ'.1 2 (160 * n + a.2.length + b'.2.length + j) = c.2.getD j 0) ∧ zSays a.2 a.1 31 ∧ zSays b'.2 b'.1 31 ∧ zSays c.2 c.1 31
theorem c_readBad {n q w e p : Nat} {k : Int32} {L : List Int32} {σ s : z_Mem} (hE : cE w e σ s) (hw : 160 * n ≤ w) (he : 3 * n ≤ e) (h13 : σ.1 1 3 = nI n) (h5 : s.1 5 4 = nI (tS L p)) : z_R (fX2_read_20 (q + 1) 0 k s) (fun b σ' => cTx n σ σ' (none, tS L p) b) := by
  rw [fX2_read_20, if_pos (show (0 : Int32) = 0 from rfl), ite_self]
  unfold fX2_read_j41
  rw [if_pos (show (0 : Int32) = 0 from rfl), z_stE, z_pt_2 (by decide), h5]
  refine z_R_some ⟨⟨fun q a b c d => ?_, fun j hj => ?_, fun j hj => ?_, z_pt_1, fun j hj => ?_⟩, rfl, ?_⟩
  · rw [z_pt_r d]; exact hE.1 q a b c d
  · rw [z_pt_3 (by decide)]; exact hE.2.2.1 j (by omega)
  · rw [z_pt_3 (by decide)]; exact hE.2.2.2.2 j (by omega)
  · rw [z_pt_2 (by omega)]; exact hE.2.2.2.1 j (by omega)
  · rw [z_pt_3 (by decide), hE.2.1 3 (by decide)]; exact h13
theorem c_read {L : List Int32} (hL : tOk L) {n : Nat} {σ : z_Mem} (hn : n < 6) (h13 : σ.1 1 3 = nI n) (ht : cTp σ L) : z_R (fX2_read σ) (fun b σ' => cTx n σ σ' (pRead L) b) := by
  have hl := hL.1
  unfold fX2_read
  rw [z_stE]
  unfold fX4_begin
  rw [z_stE, z_bdS, z_pt_3 (show 1 ≠ 5 by decide), h13]
  have e160 : nI n * (160 : Int32) = nI (160 * n) := by rw [show (160 : Int32) = nI 160 by decide, pk_mul, Nat.mul_comm]
  rw [e160]
  generalize hs : z_pt (z_pt σ 5 3 0) 1 4 (nI (160 * n)) = s
  have h4 : s.1 1 4 = nI (160 * n) := by rw [← hs, z_pt_1]
  have h13s : s.1 1 3 = nI n := by rw [← hs, z_pt_2 (by decide), z_pt_3 (by decide)]; exact h13
  have h53 : s.1 5 3 = nI 0 := by rw [← hs, z_pt_3 (by decide), z_pt_1]; rfl
  have E0 : cE 960 18 σ s := by
    rw [← hs]
    refine ⟨fun q a b c d => by rw [z_pt_r a, z_pt_r d], fun j a => by rw [z_pt_2 a, z_pt_3 (by decide)], fun j _ => by rw [z_pt_3 (by decide), z_pt_3 (by decide)], fun j hj => by rw [z_pt_3 (by decide), z_pt_2 (by omega)], fun j _ => by rw [z_pt_3 (by decide), z_pt_3 (by decide)]⟩
  have ts := cTp_E ht E0
  obtain ⟨u, s1, f1, a1, r1⟩ := c_advance hL ts h53 (Nat.zero_le _)
  have E1 : cE (160 * n) (3 * n) σ s1 := cE_tr (w := 160 * n) (e := 3 * n) (w' := 960) (e' := 18) ⟨E0.1, E0.2.1, fun j hj => E0.2.2.1 j (by omega), E0.2.2.2.1, fun j hj => E0.2.2.2.2 j (by omega)⟩ (cE_F (cF_A a1)) (by omega) (by omega)
  have h41 : s1.1 1 4 = nI (160 * n) := by rw [a1.1 1 (by omega)]; exact h4
  have h131 : s1.1 1 3 = nI n := by rw [a1.1 1 (by omega)]; exact h13s
  rw [z_bdE f1, show z_FU = 996 + 1 + 1 + 1 + 1 from rfl, fX2_read_20, if_neg (by decide), if_neg z_10]
  obtain ⟨b2, s2, f2, P2⟩ := c_part hL (k := 0) (p := 0) (by omega) hn h131 (Nat.zero_le _) (cTp_E ht E1) r1 h41 (by omega)
  have f2' : fX2_readPart 0 s1 = some (b2, s2) := f2
  rw [z_bdE f2']
  unfold pRead
  have W2 := pPart_W hL (k := 0) (p := 0) (Nat.zero_le _)
  clear f2 f2'
  generalize pPart L 0 0 = r at P2 W2 ⊢
  rcases r with ⟨_ | ⟨V0, C0⟩, p1⟩
  · obtain ⟨c2, b0, q5⟩ := P2
    rw [b0]
    exact c_readBad (cE_tr E1 c2 (by omega) (by omega)) (by omega) (by omega) h13 q5
  obtain ⟨c2, b1, rd2, g42, gC2, gE2⟩ := P2
  obtain ⟨x1, x2, x3, x4⟩ := W2
  have E2 := cE_tr E1 c2 (Nat.le_refl _) (Nat.le_add_right _ _)
  have h132 : s2.1 1 3 = nI n := by rw [c2.2.1 3 (by decide)]; exact h131
  rw [b1, show (0 : Int32) + 1 = nI 1 by decide, fX2_read_20, if_neg (by decide), if_neg z_10]
  obtain ⟨b3, s3, f3, P3⟩ := c_part hL (k := 1) (p := p1) (by omega) hn h132 x2 (cTp_E ht E2) rd2 g42 (by omega)
  rw [z_bdE f3]
  have W3 := pPart_W hL (k := 1) (p := p1) x2
  clear f3
  show z_R _ (fun b σ' => cTx n σ σ' (match pPart L 1 p1 with
    | (none, p) => (none, tS L p)
    | (some b, p2) => (match pPart L 2 p2 with
      | (none, p) => (none, tS L p)
      | (some c, p3) => if tT L p3 = 0 then (some ((V0, C0), b, c), 0) else (none, tS L p3))) b)
  generalize pPart L 1 p1 = r at P3 W3 ⊢
  rcases r with ⟨_ | ⟨V1, C1⟩, p2⟩
  · obtain ⟨c3, b0, q5⟩ := P3
    rw [b0]
    exact c_readBad (cE_tr E2 c3 (by omega) (by omega)) (by omega) (by omega) h13 q5
  obtain ⟨c3, b31, rd3, g43, gC3, gE3⟩ := P3
  obtain ⟨y1, y2, y3, y4⟩ := W3
  have E3 : cE (160 * n) (3 * n) σ s3 := cE_tr E2 c3 (by omega) (by omega)
  have h133 : s3.1 1 3 = nI n := by rw [c3.2.1 3 (by decide)]; exact h132
  rw [b31, nI_1, fX2_read_20, if_neg (by decide), if_neg z_10]
  obtain ⟨b4, s4, f4, P4⟩ := c_part hL (k := 2) (p := p2) (by omega) hn h133 y2 (cTp_E ht E3) rd3 g43 (by omega)
  rw [z_bdE f4]
  have W4 := pPart_W hL (k := 2) (p := p2) y2
  clear f4
  show z_R _ (fun b σ' => cTx n σ σ' (match pPart L 2 p2 with
      | (none, p) => (none, tS L p)
      | (some c, p3) => if tT L p3 = 0 then (some ((V0, C0), (V1, C1), c), 0) else (none, tS L p3)) b)
  generalize pPart L 2 p2 = r at P4 W4 ⊢
  rcases r with ⟨_ | ⟨V2, C2⟩, p3⟩
  · obtain ⟨c4, b0, q5⟩ := P4
    rw [b0]
    exact c_readBad (cE_tr E3 c4 (by omega) (by omega)) (by omega) (by omega) h13 q5
  obtain ⟨c4, b41, rd4, g44, gC4, gE4⟩ := P4
  obtain ⟨z1, z2, z3, z4⟩ := W4
  have E4 : cE (160 * n) (3 * n) σ s4 := cE_tr E3 c4 (by omega) (by omega)
  have h134 : s4.1 1 3 = nI n := by rw [c4.2.1 3 (by decide)]; exact h133
  rw [b41, nI_1, fX2_read_20, if_pos (by decide)]
  show z_R _ (fun b σ' => cTx n σ σ' (if tT L p3 = 0 then (some ((V0, C0), (V1, C1), (V2, C2)), 0) else (none, tS L p3)) b)
  unfold fX2_read_j41
  rw [if_neg z_10, rd4.2.2.1]
  by_cases eE : tT L p3 = 0
  · rw [if_pos eE, if_pos eE, z_stE, z_stE, h134, nI_1]
    have e3 : ∀ j, j < 3 * n + 2 → s4.1 3 j = s3.1 3 j := fun j hj => c4.2.2.2.2 j hj
    have e2 : ∀ j, j < 3 * n + 1 → s3.1 3 j = s2.1 3 j := fun j hj => c3.2.2.2.2 j hj
    refine z_R_some ⟨⟨fun q a b c d => ?_, fun j hj => ?_, fun j hj => ?_, z_pt_1, fun j hj => ?_⟩, rfl, ?_, ?_, ?_, ?_, ?_, fun j hj => ?_, fun j hj => ?_, fun j hj => ?_, x4, y4, z4⟩
    · rw [z_pt_r d, z_pt_r a]; exact E4.1 q a b c d
    · rw [z_pt_3 (by decide), z_pt_3 (by decide)]; exact E4.2.2.1 j hj
    · rw [z_pt_3 (by decide), z_pt_3 (by decide)]; exact E4.2.2.2.2 j hj
    · rw [z_pt_2 (by omega), z_pt_3 (by decide)]; exact E4.2.2.2.1 j (by omega)
    · rw [z_pt_3 (by decide), z_pt_1]
    · show C0.length + C1.length + C2.length ≤ 160
      omega
    · rw [z_pt_3 (by decide), z_pt_3 (by decide), e3 _ (by omega), e2 _ (by omega)]; exact gE2
    · rw [z_pt_3 (by decide), z_pt_3 (by decide), e3 _ (by omega)]; exact gE3
    · rw [z_pt_3 (by decide), z_pt_3 (by decide)]; exact gE4
    · have hj' : j < C0.length := hj
      rw [z_pt_3 (by decide), z_pt_3 (by decide), c4.2.2.1 _ (by omega), c3.2.2.1 _ (by omega)]; exact gC2 j hj
    · have hj' : j < C1.length := hj
      rw [z_pt_3 (by decide), z_pt_3 (by decide)]
      show s4.1 2 (160 * n + C0.length + j) = _
      rw [c4.2.2.1 _ (by omega)]; exact gC3 j hj
    · rw [z_pt_3 (by decide), z_pt_3 (by decide)]; exact gC4 j hj
  · rw [if_neg eE, if_neg eE, z_stE, z_pt_2 (by decide), rd4.2.1]
    refine z_R_some ⟨⟨fun q a b c d => ?_, fun j hj => ?_, fun j hj => ?_, z_pt_1, fun j hj => ?_⟩, rfl, ?_⟩
    · rw [z_pt_r d]; exact E4.1 q a b c d
    · rw [z_pt_3 (by decide)]; exact E4.2.2.1 j hj
    · rw [z_pt_3 (by decide)]; exact E4.2.2.2.2 j hj
    · rw [z_pt_2 (by omega)]; exact E4.2.2.2.1 j (by omega)
    · rw [z_pt_3 (by decide)]; exact h134
