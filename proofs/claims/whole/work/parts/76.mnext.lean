/-! the reference's TOKENS -/
def mBy (τ : z_Mem) (L : List Int32) (t : Nat) : Prop := τ.1 0 19 = nI (160 * t) ∧ τ.1 0 20 = nI L.length ∧ (∀ i, i < L.length → τ.1 1 (160 * t + i) = L.getD i 0) ∧ t < 6
/-- only what a reading uses has changed -/
def mQr (τ τ' : z_Mem) : Prop := (∀ k, k ≠ 0 → τ'.1 k = τ.1 k) ∧ ∀ j, (j < 21 ∨ 27 < j) → τ'.1 0 j = τ.1 0 j
theorem mQr_rf {τ : z_Mem} : mQr τ τ := ⟨fun _ _ => rfl, fun _ _ => rfl⟩
theorem mQr_tr {τ τ' τ'' : z_Mem} (h : mQr τ τ') (h' : mQr τ' τ'') : mQr τ τ'' := ⟨fun k a => (h'.1 k a).trans (h.1 k a), fun j a => (h'.2 j a).trans (h.2 j a)⟩
theorem mQr_pt {τ : z_Mem} {j : Nat} {v : Int32} (h : 21 ≤ j ∧ j ≤ 27) : mQr τ (z_pt τ 0 j v) := ⟨fun k a => z_pt_r a, fun q a => z_pt_2 (by omega)⟩
theorem mQr_pl {τ : z_Mem} {k j : Nat} {v : Int64} : mQr τ (z_pl τ k j v) := ⟨fun _ _ => rfl, fun _ _ => rfl⟩
theorem mBy_q {τ τ' : z_Mem} {L : List Int32} {t : Nat} (h : mBy τ L t) (hk : mQr τ τ') : mBy τ' L t := by
  unfold mBy
  rw [hk.2 19 (by omega), hk.2 20 (by omega), hk.1 1 (by omega)]
  exact h
theorem z_pl_2 {τ : z_Mem} {j : Nat} {v : Int64} : (z_pl τ 0 j v).2 0 j = v := by simp [z_pl, va_up, vp_updL]
theorem z_pl_1 {τ : z_Mem} {k j : Nat} {v : Int64} : (z_pl τ k j v).1 = τ.1 := rfl
theorem z_pt_s {τ : z_Mem} {k j : Nat} {v : Int32} : (z_pt τ k j v).2 = τ.2 := rfl
def mKd (τ : z_Mem) (L : List Int32) (p : Nat) (c : Int32) (k : Int32) : Prop := (c = 0 → k = 0) ∧ (c = 2 → k = 2 ∧ (τ.2 0 24).toInt32 = tV L p) ∧ (tSg c = true → k = 3 ∧ τ.2 0 24 = c.toInt64) ∧ (256 ≤ c → k = 1) ∧ (c = 1 → k = 1 ∨ k = 4) ∧ (k = 1 → tSm (tB L (tS L p)) = true) ∧ (k = 2 → c = 2) ∧ (k = 0 → c = 0)
def mTk (τ : z_Mem) (L : List Int32) (p : Nat) : Prop := τ.1 0 23 = nI (tS L p) ∧ (¬ tT L p = 1 ∨ τ.1 0 22 = 1 → τ.1 0 21 = nI (tN L p)) ∧ mKd τ L p (tT L p) (τ.1 0 22)
section ZMN
variable {L : List Int32} {t : Nat}
theorem m_byteAt {τ : z_Mem} {i : Nat} (h : mBy τ L t) (hl : L.length ≤ 160) (hi : i < 2 ^ 30) : fX6_byteAt (nI i) τ = some (tB L i, τ) := by
  obtain ⟨h1, h2, h3, h4⟩ := h
  unfold fX6_byteAt
  rw [h2]
  by_cases e : i < L.length
  · rw [if_neg (nI_ge e (by omega)), h1, nI_add, z_gdT (z_inN (by omega) (by decide)), z_xN (by omega), h3 i e]
    unfold tB
    rw [if_pos e]
  · rw [if_pos (nI_le (by omega) (by omega)), tB_out (by omega)]
theorem m_inDg {b : Int32} {τ : z_Mem} : fX6_in b.toInt64 48 57 τ = some (if tDg b = true then 1 else 0, τ) := by
  rw [m_in, show (48 : Int64).toInt = 48 from rfl, show (57 : Int64).toInt = 57 from rfl]
  by_cases h : tDg b = true
  · rw [if_pos (tDg_in h), if_pos h]
  · rw [if_neg h, if_neg]
    intro q
    apply h
    unfold tDg
    simp [Int32.le_iff_toInt_le]
    exact q
theorem tSm_in {b : Int32} (h : tSm b = true) : 97 ≤ b.toInt ∧ b.toInt ≤ 122 := by
  unfold tSm at h
  simp [Int32.le_iff_toInt_le] at h
  exact h
theorem m_inSm {b : Int32} {τ : z_Mem} : fX6_in b.toInt64 97 122 τ = some (if tSm b = true then 1 else 0, τ) := by
  rw [m_in, show (97 : Int64).toInt = 97 from rfl, show (122 : Int64).toInt = 122 from rfl]
  by_cases h : tSm b = true
  · rw [if_pos (tSm_in h), if_pos h]
  · rw [if_neg h, if_neg]
    intro q
    apply h
    unfold tSm
    simp [Int32.le_iff_toInt_le]
    exact q
theorem m_word_run (hL : tOk L) : ∀ (m q i : Nat) (τ : z_Mem), mBy τ L t → τ.1 0 21 = nI i → i ≤ L.length → i + m = L.length + 1 → m < q → z_R (fX6_next_100 (fun σ => some ((), σ)) q τ) (fun _ τ' => mQr τ τ' ∧ τ'.1 0 21 = nI (tRun L tSm (L.length + 1) i) ∧ τ'.1 0 22 = τ.1 0 22 ∧ τ'.1 0 23 = τ.1 0 23 ∧ τ'.1 0 25 = τ.1 0 25 ∧ τ'.1 0 26 = τ.1 0 26)
  | m, 0, i, τ, _, _, _, _, h => absurd h (Nat.not_lt_zero _)
  | m, q + 1, i, τ, h, h3, hi, hm, hq => by
    have hl := hL.1
    rw [fX6_next_100, h3, z_bdE (m_byteAt h hl (by omega)), z_bdE m_inSm]
    by_cases hb : tSm (tB L i) = true
    · have hlt : i < L.length := by
        apply Classical.byContradiction
        intro e
        rw [tB_out (by omega)] at hb
        exact absurd hb (by decide)
      match m, hm, hq with
      | 0, hm, hq => omega
      | m + 1, hm, hq =>
        rw [if_pos hb, if_neg z_10, z_stE, h3, nI_1]
        refine z_R_mono (m_word_run hL m q (i + 1) _ (mBy_q h (mQr_pt (by omega))) z_pt_1 (by omega) (by omega) (by omega)) (fun r s hh => ⟨mQr_tr (mQr_pt (by omega)) hh.1, ?_, ?_, ?_, ?_, ?_⟩)
        · rw [hh.2.1, ← tRun_step tSm_1 hb]
        · rw [hh.2.2.1, z_pt_2 (by decide)]
        · rw [hh.2.2.2.1, z_pt_2 (by decide)]
        · rw [hh.2.2.2.2.1, z_pt_2 (by decide)]
        · rw [hh.2.2.2.2.2, z_pt_2 (by decide)]
    · rw [if_neg hb, if_pos rfl]
      exact z_R_some ⟨mQr_rf, by rw [h3, tRun_stop hb], rfl, rfl, rfl, rfl⟩
/-- digits, as a long, four of them -/
theorem z_worth {v k : Nat} (hv : v < 1000) (hk : 48 ≤ k) (hk2 : k ≤ 57) : ((10 : Int64) * lN v + (nI k).toInt64) - (48 : Int64) = lN (v * 10 + (k - 48)) := by
  rw [nI_l (by omega), show (10 : Int64) = lN 10 by decide, lN_mul, lN_add, show (48 : Int64) = lN 48 by decide, lN_sub (by omega)]
  exact congrArg lN (by omega)
theorem m_digit_run (hL : tOk L) {K : Int32 → z_Mem → Option (Unit × z_Mem)} {P : Unit → z_Mem → Prop} {s : Nat} : ∀ (m q i v : Nat) (τ : z_Mem), mBy τ L t → τ.1 0 21 = nI i → s ≤ i → i ≤ L.length → (i - s ≤ 4 → τ.2 0 24 = lN v ∧ v < 10 ^ (i - s)) → i + m = L.length + 1 → m < q → (∀ τ', mQr τ τ' → τ'.1 0 21 = nI (tRun L tDg (L.length + 1) i) → τ'.1 0 23 = τ.1 0 23 → τ'.1 0 25 = τ.1 0 25 → τ'.1 0 26 = τ.1 0 26 → (tRun L tDg (L.length + 1) i - s ≤ 4 → (τ'.2 0 24).toInt32 = tW (tSl L i (tRun L tDg (L.length + 1) i)) (nI v)) → z_R (K (nI (tRun L tDg (L.length + 1) i - s)) τ') P) → z_R (fX6_next_160 K q (nI (i - s)) τ) P
  | m, 0, i, v, τ, _, _, _, _, _, _, h, _ => absurd h (Nat.not_lt_zero _)
  | m, q + 1, i, v, τ, h, h3, hsi, hi, hv, hm, hq, hK => by
    have hl := hL.1
    rw [fX6_next_160, h3, z_bdE (m_byteAt h hl (by omega)), z_bdE m_inDg]
    by_cases hb : tDg (tB L i) = true
    · have hlt : i < L.length := by
        apply Classical.byContradiction
        intro e
        rw [tB_out (by omega)] at hb
        exact absurd hb (by decide)
      have hr := tRun_step tDg_1 hb
      have hle := tRun_le tDg_1 (L.length + 1) (i + 1) (show i + 1 ≤ L.length by omega)
      have hge := tRun_ge (L := L) (P := tDg) (L.length + 1) (i + 1)
      have hdi := tDg_in hb
      obtain ⟨b, hb58, eb⟩ := z_ofI (x := tB L i) (N := 58) (by omega)
      have hb48 : 48 ≤ b := by rw [eb, nI_toInt (by omega)] at hdi; omega
      match m, hm, hq with
      | 0, hm, hq => omega
      | m + 1, hm, hq =>
        rw [if_pos hb, if_neg z_10, nI_1, show i - s + 1 = i + 1 - s by omega]
        by_cases k4 : 4 ≤ i - s
        · rw [if_pos (z_lle 4 4 (by decide) k4 (by omega)), z_stE, z_stE, z_pl_1, h3, nI_1]
          refine m_digit_run hL m q (i + 1) 0 _ (mBy_q h (mQr_tr mQr_pl (mQr_pt (by omega)))) z_pt_1 (by omega) (by omega) (fun q => by omega) (by omega) (by omega) (fun τ' c1 c2 c3 c5 c6 c4 => ?_)
          rw [← hr] at c2 c4 ⊢
          refine hK τ' (mQr_tr (mQr_tr mQr_pl (mQr_pt (by omega))) c1) c2 ?_ ?_ ?_ (fun q => ?_)
          · rw [c3, z_pt_2 (by decide)]; rfl
          · rw [c5, z_pt_2 (by decide)]; rfl
          · rw [c6, z_pt_2 (by decide)]; rfl
          · rw [hr] at q; omega
        · obtain ⟨v1, v2⟩ := hv (by omega)
          have hv1000 : v < 1000 := by
            have : (10 : Nat) ^ (i - s) ≤ 10 ^ 3 := Nat.pow_le_pow_right (by omega) (by omega)
            omega
          rw [if_neg (z_nle 4 4 (by decide) (by omega) (by decide)), h3, z_bdE (m_byteAt h hl (by omega)), z_stE, z_stE, z_pl_1, h3, nI_1, v1, eb, z_worth hv1000 hb48 (by omega)]
          refine m_digit_run hL m q (i + 1) (v * 10 + (b - 48)) _ (mBy_q h (mQr_tr mQr_pl (mQr_pt (by omega)))) z_pt_1 (by omega) (by omega) (fun q => ⟨?_, ?_⟩) (by omega) (by omega) (fun τ' c1 c2 c3 c5 c6 c4 => ?_)
          · rw [z_pt_s, z_pl_2]
          · rw [show i + 1 - s = (i - s) + 1 by omega, Nat.pow_succ]
            omega
          rw [← hr] at c2 c4 ⊢
          refine hK τ' (mQr_tr (mQr_tr mQr_pl (mQr_pt (by omega))) c1) c2 ?_ ?_ ?_ (fun q => ?_)
          · rw [c3, z_pt_2 (by decide)]; rfl
          · rw [c5, z_pt_2 (by decide)]; rfl
          · rw [c6, z_pt_2 (by decide)]; rfl
          · rw [c4 q, hr, tSl_cons (s := i) (by omega) hle, tW, eb]
            congr 1
            rw [show (10 : Int32) = nI 10 by decide, pk_mul, nI_add, show (48 : Int32) = nI 48 by decide, pk_sub (by omega)]
            exact congrArg nI (by omega)
    · rw [if_neg hb, if_pos rfl]
      have hs := tRun_stop (L := L) hb
      have := hK τ mQr_rf (by rw [hs]; exact h3) rfl rfl rfl (fun q => by
        rw [hs] at q ⊢
        rw [tSl_nil, (hv q).1, lN_i]
        rfl)
      rw [hs] at this
      exact this
end ZMN
