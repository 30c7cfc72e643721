/-! the class's search -/
/-- Orders in the search: table and standing, the row so far, the best -/
def cQ (σ : z_Mem) (tv : zTV) (a : aS) (pre : List Nat) (s : oS) : Prop := σ.1 22 4 = nI (ar a).length ∧ (∀ i, i < pre.length → σ.1 24 i = nI (pre.getD i 0)) ∧ (∀ p q, p < an a → q < an a → q ≠ p → σ.1 23 (6 * p + q) = gHold tv a p q) ∧ σ.1 22 5 = s.2 ∧ s.1.length = (ar a).length ∧ ∀ i, i < (ar a).length → σ.1 26 i = nI (s.1.getD i 0)
abbrev oWk (tv : zTV) (a : aS) : List Nat → Int32 := fun r => gWeak tv (aRing a r)
theorem cQ_O {σ : z_Mem} {tv : zTV} {a : aS} {pre : List Nat} {s : oS} (h : cQ σ tv a pre s) {p q : Nat} (hw : aW a) (hp : p < an a) (hq : q < an a) (hne : q ≠ p) : fX1_between (nI p) (nI q) σ = some (gHold tv a p q, σ) := by
  have h6 := hw.1
  unfold fX1_between
  rw [if_neg (nI_pos (by omega)), if_neg (z_nle 6 6 (by decide) (by omega) (by decide)), if_neg (nI_pos (by omega)), if_neg (z_nle 6 6 (by decide) (by omega) (by decide)), m6, z_gdT (z_inN (by omega) (by decide)), z_xN (by omega), h.2.2.1 p q hp hq hne]
def cSk (tv : zTV) (a : aS) (G : Int32 → Int32 → Int32 → z_Mem → Option (Unit × z_Mem)) (k : Nat) : Prop := ∀ (σ : z_Mem) (pre rem : List Nat) (s : oS) (M : Nat), cQ σ tv a pre s → (pre ++ rem).Perm (ar a) → rem.length = k → 0 < pre.length → oMk M rem → z_R (G (nI pre.length) (nI M) (oL tv a pre) σ) (fun _ σ' => cQ σ' tv a pre (oDfs (oWk tv a) k pre rem s) ∧ cK (fun k => k = 22 ∨ k = 24 ∨ k = 26) σ σ')
theorem oP_lt {a : aS} {pre rem : List Nat} (hw : aW a) (h : (pre ++ rem).Perm (ar a)) {p : Nat} (hp : p ∈ pre ++ rem) : p < an a := hw.2.2.1 p (h.mem_iff.mp hp)
theorem z_mem {l : List Nat} {i : Nat} (h : i < l.length) : l.getD i 0 ∈ l := by rw [z_getD h]; exact List.getElem_mem h
theorem c_sk_loop {tv : zTV} {a : aS} {G : Int32 → Int32 → Int32 → z_Mem → Option (Unit × z_Mem)} {k M : Nat} {pre rem : List Nat} (hw : aW a) (hG : cSk tv a G k) (hp : (pre ++ rem).Perm (ar a)) (hk : rem.length = k + 1) (h0 : 0 < pre.length) (hM : oMk M rem) : ∀ (m q p : Nat) (s : oS) (σ : z_Mem), cQ σ tv a pre s → p + m = 6 → m < q → z_R (fX1_seekFrom_84 G q (nI pre.length) (nI M) (oL tv a pre) (nI p) σ) (fun _ σ' => cQ σ' tv a pre (oLp (fun p s => if p ∈ rem then oDfs (oWk tv a) k (pre ++ [p]) (rem.erase p) s else s) m p s) ∧ cK (fun k => k = 22 ∨ k = 24 ∨ k = 26) σ σ')
  | m, 0, p, s, σ, _, _, h => absurd h (Nat.not_lt_zero _)
  | 0, q + 1, p, s, σ, h, hi, hq => by
    have : p = 6 := by omega
    subst this
    rw [fX1_seekFrom_84, if_pos (by decide), oLp]
    exact z_R_some ⟨h, cK_rf⟩
  | m + 1, q + 1, p, s, σ, h, hi, hq => by
    have h6 := hw.1
    have hl6 := aW_len hw
    have hlen : pre.length + rem.length = (ar a).length := by rw [← hp.length_eq]; simp
    have hN : (pre ++ rem).Nodup := hp.nodup_iff.mpr hw.2.1
    have hNr : rem.Nodup := (List.nodup_append.mp hN).2.1
    rw [fX1_seekFrom_84, if_neg (z_nle 6 6 (by decide) (by omega) (by decide)), oLp]
    by_cases e : p ∈ rem
    · have hpa : p < an a := oP_lt hw hp (List.mem_append_right _ e)
      rw [if_pos ((oMk_bit hM (by omega)).mpr e), if_pos e, z_gdT (z_inN (by omega) (by decide)), z_stE, z_xN (show pre.length < 2 ^ 31 by omega)]
      have e1 : nI pre.length - (1 : Int32) = nI (pre.length - 1) := by rw [show (1 : Int32) = nI 1 by decide]; exact pk_sub (by omega)
      rw [e1, z_gdT (z_inN (by omega) (by decide)), z_xN (show pre.length - 1 < 2 ^ 31 by omega)]
      have hQ : cQ (z_pt σ 24 pre.length (nI p)) tv a (pre ++ [p]) s := by
        obtain ⟨g1, g2, g3, g4, g5, g6⟩ := h
        refine ⟨?_, fun i hi => ?_, fun x y hx hy hne => ?_, ?_, g5, fun i hi => ?_⟩
        · rw [z_pt_3 (by decide)]; exact g1
        · by_cases ei : i = pre.length
          · rw [ei, z_pt_1, z_getD_last]
          · have hi' : i < pre.length := by simp at hi; omega
            rw [z_pt_2 ei, z_getD_app hi']; exact g2 i hi'
        · rw [z_pt_3 (by decide)]; exact g3 x y hx hy hne
        · rw [z_pt_3 (by decide)]; exact g4
        · rw [z_pt_3 (by decide)]; exact g6 i hi
      have er : (z_pt σ 24 pre.length (nI p)).1 24 (pre.length - 1) = nI (pre.getD (pre.length - 1) 0) := by
        rw [z_pt_2 (by omega)]; exact h.2.1 _ (by omega)
      have hla : pre.getD (pre.length - 1) 0 ∈ pre := z_mem (by omega)
      have hlt : pre.getD (pre.length - 1) 0 < an a := oP_lt hw hp (List.mem_append_left _ hla)
      have hne : p ≠ pre.getD (pre.length - 1) 0 := fun q => (List.nodup_append.mp hN).2.2 _ hla _ e q.symm
      rw [er, z_bdE (cQ_O hQ hw hlt hpa hne), (z_bitC M hM.1 p (by omega)).1, ← oL_snoc h0]
      have hlen2 : (pre ++ [p]).length = pre.length + 1 := by simp
      have GG := hG (z_pt σ 24 pre.length (nI p)) (pre ++ [p]) (rem.erase p) s (zClr M p) hQ (oP_step hp e) (by rw [List.length_erase_of_mem e]; omega) (by simp) (oMk_clr hM (by omega) hNr)
      rw [hlen2] at GG
      obtain ⟨u, s1, f1, q1, k1⟩ := GG
      rw [nI_1, z_bdE f1, nI_1]
      have hq1 : cQ s1 tv a pre (oDfs (oWk tv a) k (pre ++ [p]) (rem.erase p) s) := by
        obtain ⟨g1, g2, g3, g4, g5, g6⟩ := q1
        exact ⟨g1, fun i hi => by rw [g2 i (by simp; omega), z_getD_app hi], g3, g4, g5, g6⟩
      have hk0 : cK (fun k => k = 22 ∨ k = 24 ∨ k = 26) σ s1 := cK_tr (fun k hk => z_pt_r (by omega)) k1
      exact z_R_mono (c_sk_loop hw hG hp hk h0 hM m q (p + 1) _ s1 hq1 (by omega) (by omega)) (fun r t hh => ⟨hh.1, cK_tr hk0 hh.2⟩)
    · rw [if_neg (fun q => e ((oMk_bit hM (by omega)).mp q)), if_neg e, nI_1]
      exact c_sk_loop hw hG hp hk h0 hM m q (p + 1) s σ h (by omega) (by omega)
theorem c_seek {tv : zTV} {a : aS} (hw : aW a) (h2 : 2 ≤ (ar a).length) : ∀ (k f : Nat), k < f → cSk tv a (zGS f) k
  | _, 0, h => absurd h (Nat.not_lt_zero _)
  | k, f + 1, hf => fun σ pre rem s M h hp hk h0 hM => by
    have h6 := hw.1
    have hl6 := aW_len hw
    have hlen : pre.length + rem.length = (ar a).length := by rw [← hp.length_eq]; simp
    show z_R (fX1_seekFrom_b (zGS f) (nI pre.length) (nI M) (oL tv a pre) σ) _
    unfold fX1_seekFrom_b
    rw [h.2.2.2.1, h.1]
    by_cases e : s.2 < oL tv a pre
    · rw [if_pos e]
      match k, hk with
      | 0, hk =>
        have er : rem = [] := List.length_eq_zero_iff.mp hk
        subst er
        have hr : oR a pre := by rw [List.append_nil] at hp; exact hp
        have hpl : pre.length = (ar a).length := oR_len hr
        rw [if_pos (nI_le (by omega) (by omega))]
        unfold fX1_seekFrom_j23
        have e1 : nI (ar a).length - (1 : Int32) = nI (pre.length - 1) := by rw [show (1 : Int32) = nI 1 by decide, ← hpl]; exact pk_sub (by omega)
        rw [h.1, e1, z_gdT (z_inN (by omega) (by decide)), z_gdT (by decide), z_xN (by omega), h.2.1 _ (by omega), show σ.1 24 (z_x (0 : Int32)) = nI (pre.getD 0 0) from h.2.1 0 h0, z_bdE (cQ_O h hw (aR_lt (oR_W hr hw) (show pre.length - 1 < (ar (aRing a pre)).length by show pre.length - 1 < pre.length; omega)) (aR_lt (oR_W hr hw) (show 0 < (ar (aRing a pre)).length from h0)) (oR_ne hr hw (by omega) (by omega) (by omega))), oL_W hr hw (by omega), h.2.2.2.1, oDfs]
        by_cases e2 : gWeak tv (aRing a pre) ≤ s.2
        · rw [if_pos e2, if_neg (Int32.not_lt.mpr e2)]
          exact z_R_some ⟨h, cK_rf⟩
        · rw [if_neg e2, if_pos (Int32.not_le.mp e2), z_stE, z_gdT z_cpOk6, z_stE, z_x0, z_x6]
          obtain ⟨g1, g2, g3, g4, g5, g6⟩ := h
          refine z_R_some ⟨⟨?_, fun i hi => ?_, fun x y hx hy hne => ?_, ?_, hpl, fun i hi => ?_⟩, fun q hq => ?_⟩
          · rw [z_ac_r (by decide), z_pt_2 (by decide)]; exact g1
          · rw [z_ac_r (by decide), z_pt_3 (by decide)]; exact g2 i hi
          · rw [z_ac_r (by decide), z_pt_3 (by decide)]; exact g3 x y hx hy hne
          · rw [z_ac_r (by decide), z_pt_1]
          · rw [z_ac_f, if_pos rfl, if_pos (by omega), z_pt_3 (by decide), show 0 + (i - 0) = i by omega]; exact g2 i (by omega)
          · rw [z_ac_r (by omega), z_pt_r (by omega)]
      | k + 1, hk =>
        rw [if_neg (nI_ge (by omega) (by omega)), if_pos (by rw [show (6 : Int32) = nI 6 by decide]; exact nI_lt (by omega) (by decide)), oDfs]
        have L := c_sk_loop hw (c_seek hw h2 k f (by omega)) hp hk h0 hM 6 z_FU 0 s σ h (by omega) (by simp only [z_FU]; omega)
        rw [nI_0] at L
        exact L
    · rw [if_neg e, oDfs_prune hw rfl h2 k pre rem s hp hk h0 (Int32.not_lt.mp e)]
      exact z_R_some ⟨h, cK_rf⟩
/-- the digits of an order -/
def oDg (l : List Nat) : Nat := l.foldl (fun d p => d * 10 + p + 1) 0
theorem c_dig_loop {σ : z_Mem} {l : List Nat} (h1 : σ.1 22 4 = nI l.length) (h2 : ∀ i, i < l.length → σ.1 26 i = nI (l.getD i 0)) (h6 : l.length ≤ 6) : ∀ (m q i d : Nat), i + m = l.length → m < q → fX1_bestDigits_4 q (nI d) (nI i) σ = some (nI ((l.drop i).foldl (fun d p => d * 10 + p + 1) d), σ)
  | m, 0, i, d, _, h => absurd h (Nat.not_lt_zero _)
  | 0, q + 1, i, d, hi, hq => by
    have : i = l.length := by omega
    subst this
    rw [fX1_bestDigits_4, h1, if_pos (nI_le (by omega) (by omega)), List.drop_length]
    rfl
  | m + 1, q + 1, i, d, hi, hq => by
    have hi' : i < l.length := by omega
    rw [fX1_bestDigits_4, h1, if_neg (nI_ge hi' (by omega)), z_gdT (z_inN (by omega) (by decide)), z_xN (by omega), h2 i hi', show (10 : Int32) = nI 10 by decide, pk_mul, nI_add, nI_1, nI_1, c_dig_loop h1 h2 h6 m q (i + 1) _ (by omega) (by omega), List.drop_eq_getElem_cons hi', List.foldl_cons, z_getD hi']
theorem c_digits {σ : z_Mem} {l : List Nat} (h1 : σ.1 22 4 = nI l.length) (h2 : ∀ i, i < l.length → σ.1 26 i = nI (l.getD i 0)) (h6 : l.length ≤ 6) : fX1_bestDigits σ = some (nI (oDg l), σ) := by
  unfold fX1_bestDigits
  have := c_dig_loop h1 h2 h6 l.length z_FU 0 0 (by omega) (by simp only [z_FU]; omega)
  rw [nI_0, List.drop_zero] at this
  exact this
