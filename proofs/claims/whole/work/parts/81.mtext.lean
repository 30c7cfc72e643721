section ZMT
variable {L : List Int32} {t : Nat}
theorem m_part (hL : tOk L) {k p : Nat} {τ : z_Mem} (hp : p ≤ L.length) (hb : mBy τ L t) (hk : mTk τ L p) (h25 : τ.1 0 25 = nI 0) (h26 : τ.1 0 26 = 0) (hk3 : k < 3) : z_R (fX6_part (if tT L p = nI (262 + k) then 1 else 0) τ) (fun v τ' => mRes L 0 τ (pPart L k p) v τ') := by
  have bad34 : ∀ (v : Int32) (s : z_Mem), s.1 0 26 = 1 → fX6_part_j34 v s = some (v, s) := fun v s h => by
    unfold fX6_part_j34 fX6_part_j48
    rw [z_bdE (m_isSignB (z_b1 h)), if_pos rfl, z_bdE (m_failB (z_b1 h)), if_neg (z_b1 h)]
  unfold fX6_part pPart
  by_cases e : tT L p = nI (262 + k)
  rotate_left
  · obtain ⟨s1, f1, q1, b1, x1⟩ := m_fail h26 hk.1
    rw [if_neg e, if_pos rfl, z_bdE f1, if_neg e]
    unfold fX6_part_j8 fX6_part_j19
    rw [if_neg (z_b1 b1), if_neg (z_b1 b1), bad34 0 s1 b1]
    exact z_R_some ⟨q1, b1, x1⟩
  rw [if_pos e, if_neg z_10, if_pos e]
  unfold fX6_part_j8
  rw [if_pos h26]
  have hne1 : ¬ tT L p = 1 := by rw [e, show (1 : Int32) = nI 1 by decide, z_eq_nI (by omega) (by omega)]; omega
  have hnl := tN_le hL hp
  obtain ⟨u, s2, f2, n2, k2⟩ := m_next hL hb (hk.2.1 (Or.inl hne1)) hnl
  have b2 := mBy_q hb n2.1
  have h252 : s2.1 0 25 = nI 0 := by rw [n2.2.1]; exact h25
  have h262 : s2.1 0 26 = 0 := by rw [n2.2.2]; exact h26
  rw [z_bdE f2]
  unfold fX6_part_j19
  rw [if_pos h262]
  obtain ⟨v3, s3, f3, R3⟩ := m_readers hL 36 0 0 64 (by omega) (by omega) (by omega) (by omega) (tN L p) s2 hnl b2 k2 h252 h262
  have f3' : fX6_either s2 = some (v3, s3) := f3
  rw [z_bdE f3']
  have W3 := pG_W hL 36 0 0 (tN L p) (by omega) (by omega) hnl
  clear f3 f3'
  generalize pG L 36 0 0 (tN L p) = r at R3 W3 ⊢
  rcases r with ⟨_ | ⟨V, C⟩, p2⟩
  · obtain ⟨q3, b3, x3⟩ := R3
    rw [bad34 v3 s3 b3]
    exact z_R_some ⟨mQr_tr n2.1 q3, b3, x3⟩
  · obtain ⟨q3, e3, k3, h253, h263⟩ := R3
    obtain ⟨w1, w2, w3, w4⟩ := W3
    unfold fX6_part_j34
    rw [z_bdE (m_isSign k3 h263 (by decide))]
    show z_R _ (fun v τ' => mRes L 0 τ (if tT L p2 = 59 then (some (V, C), tN L p2) else (none, p2)) v τ')
    by_cases e59 : tT L p2 = 59
    · rw [if_pos e59, if_neg z_10, if_pos e59]
      unfold fX6_part_j48
      rw [if_pos h263]
      obtain ⟨u, s4, f4, n4, k4⟩ := m_next hL (mBy_q b2 q3) (k3.2.1 (Or.inl (by rw [e59]; decide))) (tN_le hL w2)
      rw [z_bdE f4]
      refine z_R_some ⟨mQr_tr n2.1 (mQr_tr q3 n4.1), ?_, k4, by rw [n4.2.1]; exact h253, by rw [n4.2.2]; exact h263⟩
      rw [e3, mEnv_q n2.1]
    · obtain ⟨s4, f4, q4, b4, x4⟩ := m_fail h263 k3.1
      rw [if_neg e59, if_pos rfl, if_neg e59, z_bdE f4]
      unfold fX6_part_j48
      rw [if_neg (z_b1 b4)]
      exact z_R_some ⟨mQr_tr n2.1 (mQr_tr q3 q4), b4, x4⟩
/-- what a whole reading leaves -/
def mTx (k : Nat) (τ τ' : z_Mem) (r : Option ((pV × List Int32) × (pV × List Int32) × (pV × List Int32)) × Nat) (v : Int32) : Prop := ((∀ q, q ≠ 0 → τ'.1 q = τ.1 q) ∧ ∀ j, (j < 19 ∨ 27 < j) → τ'.1 0 j = τ.1 0 j) ∧ match r with
  | (none, s) => τ'.1 0 26 = 1 ∧ τ'.1 0 27 = nI s
  | (some (a, b, c), _) => τ'.1 0 26 = 0 ∧ v = (if k = 0 then a.1 else if k = 1 then b.1 else c.1) (mEnv τ)
theorem m_read (hL : tOk L) {k : Nat} {τ : z_Mem} (ht : t < 6) (hk3 : k < 3) (h2 : τ.1 2 t = nI L.length) (h1 : ∀ i, i < L.length → τ.1 1 (160 * t + i) = L.getD i 0) : z_R (fX6_read (nI t) (nI k) τ) (fun v τ' => mTx k τ τ' (pRead L) v) := by
  have hl := hL.1
  unfold fX6_read
  have e160 : (160 : Int32) * nI t = nI (160 * t) := by rw [show (160 : Int32) = nI 160 by decide, pk_mul]
  rw [z_stE, z_gdT (z_inN ht (by decide)), z_stE, z_stE, z_stE, z_stE, e160, z_xN (by omega), z_pt_3 (show 2 ≠ 0 by decide), h2]
  generalize hs : z_pt (z_pt (z_pt (z_pt (z_pt τ 0 19 (nI (160 * t))) 0 20 (nI L.length)) 0 21 0) 0 25 0) 0 26 0 = s
  have hk : ∀ q, q ≠ 0 → s.1 q = τ.1 q := fun q h => by rw [← hs, z_pt_r h, z_pt_r h, z_pt_r h, z_pt_r h, z_pt_r h]
  have h0 : ∀ j, (j < 19 ∨ 27 < j) → s.1 0 j = τ.1 0 j := fun j hj => by rw [← hs, z_pt_2 (by omega), z_pt_2 (by omega), z_pt_2 (by omega), z_pt_2 (by omega), z_pt_2 (by omega)]
  have hby : mBy s L t := by
    refine ⟨?_, ?_, fun i hi => ?_, ht⟩
    · rw [← hs, z_pt_2 (by decide), z_pt_2 (by decide), z_pt_2 (by decide), z_pt_2 (by decide), z_pt_1]
    · rw [← hs, z_pt_2 (by decide), z_pt_2 (by decide), z_pt_2 (by decide), z_pt_1]
    · rw [hk 1 (by decide)]; exact h1 i hi
  have h21 : s.1 0 21 = nI 0 := by rw [← hs, z_pt_2 (by decide), z_pt_2 (by decide), z_pt_1]; rfl
  have h25 : s.1 0 25 = nI 0 := by rw [← hs, z_pt_2 (by decide), z_pt_1]; rfl
  have h26 : s.1 0 26 = 0 := by rw [← hs, z_pt_1]
  have eenv : mEnv s = mEnv τ := by
    funext q
    unfold mEnv zSix
    exact h0 _ (Or.inl (by split <;> omega))
  have fr : ∀ s' : z_Mem, mQr s s' → (∀ q, q ≠ 0 → s'.1 q = τ.1 q) ∧ ∀ j, (j < 19 ∨ 27 < j) → s'.1 0 j = τ.1 0 j := fun s' h => ⟨fun q a => (h.1 q a).trans (hk q a), fun j a => (h.2 j (by omega)).trans (h0 j a)⟩
  have badEnd : ∀ (a b : Int32) (x : z_Mem) (p : Nat), mQr s x → x.1 0 26 = 1 → x.1 0 27 = nI (tS L p) → z_R (fX6_read_j92 (nI k) a b x) (fun v τ' => mTx k τ τ' (none, tS L p) v) := fun a b x p hq hb hf => by
    unfold fX6_read_j92 fX6_read_j126 fX6_read_j146
    rw [if_neg (z_b1 hb), if_neg (z_b1 hb)]
    repeat' split
    all_goals exact z_R_some ⟨fr x hq, hb, hf⟩
  obtain ⟨u, s1, f1, n1, k1⟩ := m_next hL hby h21 (Nat.zero_le _)
  have b1 := mBy_q hby n1.1
  have h251 : s1.1 0 25 = nI 0 := by rw [n1.2.1]; exact h25
  have h261 : s1.1 0 26 = 0 := by rw [n1.2.2]; exact h26
  rw [z_bdE f1, z_bdE (m_isWord (w := 6) hL b1 (Nat.zero_le _) k1 h261 (by omega) (by decide))]
  obtain ⟨v2, s2, f2, R2⟩ := m_part hL (k := 0) (Nat.zero_le _) b1 k1 h251 h261 (by omega)
  rw [z_bdE f2]
  unfold pRead
  have W2 := pPart_W hL (k := 0) (p := 0) (Nat.zero_le _)
  clear f2
  generalize pPart L 0 0 = r at R2 W2 ⊢
  rcases r with ⟨_ | ⟨V0, C0⟩, p1⟩
  · obtain ⟨q2, b2, x2⟩ := R2
    rw [if_neg (z_b1 b2)]
    exact badEnd _ _ s2 p1 (mQr_tr n1.1 q2) b2 x2
  obtain ⟨q2, e2, k2, h252, h262⟩ := R2
  obtain ⟨w1, w2, w3, w4⟩ := W2
  have Q2 := mQr_tr n1.1 q2
  have by2 := mBy_q hby Q2
  rw [if_pos h262, z_bdE (m_isWord (w := 7) hL by2 w2 k2 h262 (by omega) (by decide))]
  obtain ⟨v3, s3, f3, R3⟩ := m_part hL (k := 1) w2 by2 k2 h252 h262 (by omega)
  rw [z_bdE f3]
  show z_R _ (fun v τ' => mTx k τ τ' (match pPart L 1 p1 with
    | (none, p) => (none, tS L p)
    | (some b, p2) => (match pPart L 2 p2 with
      | (none, p) => (none, tS L p)
      | (some c, p3) => if tT L p3 = 0 then (some ((V0, C0), b, c), 0) else (none, tS L p3))) v)
  have W3 := pPart_W hL (k := 1) (p := p1) w2
  clear f3
  generalize pPart L 1 p1 = r at R3 W3 ⊢
  rcases r with ⟨_ | ⟨V1, C1⟩, p2⟩
  · obtain ⟨q3, b3, x3⟩ := R3
    exact badEnd _ _ s3 p2 (mQr_tr Q2 q3) b3 x3
  obtain ⟨q3, e3, k3, h253, h263⟩ := R3
  obtain ⟨y1, y2, y3, y4⟩ := W3
  have Q3 := mQr_tr Q2 q3
  have by3 := mBy_q hby Q3
  unfold fX6_read_j92
  rw [if_pos h263, z_bdE (m_isWord (w := 8) hL by3 y2 k3 h263 (by omega) (by decide))]
  obtain ⟨v4, s4, f4, R4⟩ := m_part hL (k := 2) y2 by3 k3 h253 h263 (by omega)
  rw [z_bdE f4]
  show z_R _ (fun v τ' => mTx k τ τ' (match pPart L 2 p2 with
      | (none, p) => (none, tS L p)
      | (some c, p3) => if tT L p3 = 0 then (some ((V0, C0), (V1, C1), c), 0) else (none, tS L p3)) v)
  clear f4
  generalize pPart L 2 p2 = r at R4 ⊢
  rcases r with ⟨_ | ⟨V2, C2⟩, p3⟩
  · obtain ⟨q4, b4, x4⟩ := R4
    show z_R _ (fun v τ' => mTx k τ τ' (none, tS L p3) v)
    unfold fX6_read_j126 fX6_read_j146
    rw [if_neg (z_b1 b4)]
    repeat' split
    all_goals exact z_R_some ⟨fr s4 (mQr_tr Q3 q4), b4, x4⟩
  obtain ⟨q4, e4, k4, h254, h264⟩ := R4
  have Q4 := mQr_tr Q3 q4
  show z_R _ (fun v τ' => mTx k τ τ' (if tT L p3 = 0 then (some ((V0, C0), (V1, C1), (V2, C2)), 0) else (none, tS L p3)) v)
  unfold fX6_read_j126
  rw [if_pos h264]
  by_cases eE : tT L p3 = 0
  · rw [if_pos (k4.2.2.1 eE), if_pos eE]
    unfold fX6_read_j146
    have v0 : v2 = V0 (mEnv τ) := by rw [e2, mEnv_q n1.1, eenv]
    have v1 : v3 = V1 (mEnv τ) := by rw [e3, mEnv_q Q2, eenv]
    have v5 : v4 = V2 (mEnv τ) := by rw [e4, mEnv_q Q3, eenv]
    rcases (show k = 0 ∨ k = 1 ∨ k = 2 by omega) with rfl | rfl | rfl
    · exact z_R_some ⟨fr s4 Q4, h264, v0⟩
    · exact z_R_some ⟨fr s4 Q4, h264, v1⟩
    · exact z_R_some ⟨fr s4 Q4, h264, v5⟩
  · obtain ⟨s5, f5, q5, b5, x5⟩ := m_fail h264 k4.1
    rw [if_neg (fun q => eE (k4.2.2.2.2.2.2.2.2.2 q)), if_neg eE, z_bdE f5]
    unfold fX6_read_j146
    repeat' split
    all_goals exact z_R_some ⟨fr s5 (mQr_tr Q4 q5), b5, x5⟩
end ZMT
