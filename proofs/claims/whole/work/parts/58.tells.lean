/-! what was told, read back -/
def zUn (f : Nat → Int32) (N : Nat) (l : List Int32) : Nat → Nat → Int32
  | 0, _ => -1
  | m + 1, i => if N ≤ i then nI i else if f i = l.getD i 0 then zUn f N l m (i + 1) else nI i
def gUn (tv : zTV) (a : aS) (l : List Int32) : Int32 := zUn (gH tv a) (aN a) l l.length 0
theorem c_un_loop {c n s k : Nat} {a : aS} {tv : zTV} {l : List Int32} (hw : aW a) (hr : au a < n) (hc : zAp c) (hl : l.length ≤ 40) : ∀ (m q i : Nat) (σ : z_Mem), cM σ c a → cT σ tv n → cSheet σ s (some (k, l)) → i + m = l.length → m < q → z_R (fX0_firstUnlike_7 c (28 + 2 * s) q (nI (aN a)) (nI i) σ) (fun r σ' => r = zUn (gH tv a) (aN a) l m i ∧ cK (fun k => k = 4) σ σ')
  | m, 0, i, σ, _, _, _, _, h => absurd h (Nat.not_lt_zero _)
  | 0, q + 1, i, σ, h, hT, hS, hi, hq => by
    rw [fX0_firstUnlike_7, hS.2.1, if_pos (nI_le (by omega) (by omega))]
    exact z_R_some ⟨rfl, cK_rf⟩
  | m + 1, q + 1, i, σ, h, hT, hS, hi, hq => by
    have hle := aN_le hw
    rw [fX0_firstUnlike_7, hS.2.1, if_neg (nI_ge (by omega) (by omega)), if_neg (z_nle 40 40 (by decide) (by omega) (by decide))]
    simp only [zUn]
    by_cases e : aN a ≤ i
    · rw [if_pos (nI_le e (by omega)), if_pos e]
      exact z_R_some ⟨rfl, cK_rf⟩
    · rw [if_neg (nI_ge (by omega) (by omega)), if_neg e]
      refine z_R_bd (c_holdFrom h hw hT hr hc (by omega)) (fun v s1 hv => ?_)
      have hS1 := cSheet_kept hS hv.2 (by omega) (by omega)
      rw [z_gdT (z_inN (by omega) (by decide)), z_xN (by omega), hS1.2.2 i (by omega), hv.1, nI_1]
      by_cases e2 : gH tv a i = l.getD i 0
      · rw [if_pos e2, if_pos e2]
        exact z_R_mono (c_un_loop hw hr hc hl m q (i + 1) s1 (cM_k4 h hv.2 hc) (cT_kept hT hv.2 (by decide) (by decide) (by decide)) hS1 (by omega) (by omega)) (fun r σ' q => ⟨q.1, cK_tr hv.2 q.2⟩)
      · rw [if_neg e2, if_neg e2]
        exact z_R_some ⟨rfl, hv.2⟩
theorem c_un {c n s k : Nat} {a : aS} {tv : zTV} {l : List Int32} {σ : z_Mem} (hw : aW a) (hr : au a < n) (hc : zAp c) (hl : l.length ≤ 40) (h : cM σ c a) (hT : cT σ tv n) (hS : cSheet σ s (some (k, l))) : z_R (fX0_firstUnlike c (28 + 2 * s) σ) (fun r σ' => r = gUn tv a l ∧ cK (fun k => k = 4) σ σ') := by
  unfold fX0_firstUnlike
  refine z_R_bdE (c_holds h hw) ?_
  have e := c_un_loop (tv := tv) (s := s) hw hr hc hl l.length z_FU 0 σ h hT hS (by omega) (by simp only [z_FU]; omega)
  rw [nI_0] at e
  exact e
theorem m_un_loop {n s k : Nat} {a : aS} {tv : zTV} {l : List Int32} (hs : s < 4) (hw : aW a) (hr : au a < n) (hl : l.length ≤ 40) : ∀ (m q i : Nat) (τ : z_Mem), mM τ a → mT τ tv n → mSheet τ s (some (k, l)) → i + m = l.length → m < q → z_R (fX6_firstOther_2 q (nI s) (nI i) τ) (fun r τ' => r = zUn (gH tv a) (aN a) l m i ∧ mK τ τ')
  | m, 0, i, τ, _, _, _, _, h => absurd h (Nat.not_lt_zero _)
  | 0, q + 1, i, τ, h, hT, hS, hi, hq => by
    rw [fX6_firstOther_2, z_gdT (z_inN hs (by decide)), z_xN (by omega), hS.2.2.1, if_pos (nI_le (by omega) (by omega))]
    exact z_R_some ⟨rfl, mK_rf⟩
  | m + 1, q + 1, i, τ, h, hT, hS, hi, hq => by
    have hle := aN_le hw
    have h6 := aW_len hw
    rw [fX6_firstOther_2, z_gdT (z_inN hs (by decide)), z_xN (by omega), hS.2.2.1, if_neg (nI_ge (by omega) (by omega)), h.2.1]
    simp only [zUn]
    by_cases l2 : (ar a).length < 2
    · have hN : aN a = 0 := if_pos l2
      rw [if_pos (show aN a ≤ i by omega), if_pos (show nI (ar a).length < 2 by rw [show (2 : Int32) = nI 2 by decide]; exact nI_lt l2 (by decide)), ite_self]
      exact z_R_some ⟨rfl, mK_rf⟩
    have hN : aN a = (ar a).length := if_neg l2
    by_cases e : aN a ≤ i
    · rw [if_pos (nI_le (by omega) (by omega)), if_pos e]
      exact z_R_some ⟨rfl, mK_rf⟩
    · rw [if_neg (nI_ge (by omega) (by omega)), if_neg (show ¬ nI (ar a).length < 2 by rw [show (2 : Int32) = nI 2 by decide]; exact nI_nlt (by omega) (by omega)), if_neg e]
      refine z_R_bd (m_hold h hw hT hr (by omega)) (fun v s1 hv => ?_)
      have e11 := hv.2.1 11 (by decide)
      have e12 := hv.2.1 12 (by decide)
      have e13 := hv.2.1 13 (by decide)
      have e14 := hv.2.1 14 (by decide)
      have hS1 : mSheet s1 s (some (k, l)) := by
        unfold mSheet
        rw [e11, e12, e13, e14]
        exact hS
      rw [m40, z_gdT (z_inN (by omega) (by decide)), z_xN (by omega), hS1.2.2.2 i (by omega), hv.1, nI_1]
      by_cases e2 : gH tv a i = l.getD i 0
      · rw [if_pos e2, if_pos e2]
        exact z_R_mono (m_un_loop hs hw hr hl m q (i + 1) s1 (mM_kept h hv.2) (mT_k hT hv.2) hS1 (by omega) (by omega)) (fun r σ' q => ⟨q.1, mK_tr hv.2 q.2⟩)
      · rw [if_neg e2, if_neg e2]
        exact z_R_some ⟨rfl, hv.2⟩
theorem m_un {n s k : Nat} {a : aS} {tv : zTV} {l : List Int32} {τ : z_Mem} (hs : s < 4) (hw : aW a) (hr : au a < n) (hl : l.length ≤ 40) (h : mM τ a) (hT : mT τ tv n) (hS : mSheet τ s (some (k, l))) : z_R (fX6_firstOther (nI s) τ) (fun r τ' => r = gUn tv a l ∧ mK τ τ') := by
  unfold fX6_firstOther
  have e := m_un_loop (tv := tv) hs hw hr hl l.length z_FU 0 τ h hT hS (by omega) (by simp only [z_FU]; omega)
  rw [nI_0] at e
  exact e
theorem upd_upd {f : Nat → Int32} {p : Nat} {u v : Int32} : upd (upd f p u) p v = upd f p v := by
  funext j
  unfold upd
  split <;> rfl
theorem upd_self {f : Nat → Int32} {p : Nat} : upd f p (f p) = f := by
  funext j
  unfold upd
  split
  · rename_i e; rw [e]
  · rfl
theorem aSup_sup {a : aS} {w p : Nat} {u v : Int32} : aSup (aSup a w p u) w p v = aSup a w p v := by
  unfold aSup
  by_cases h0 : w = 0
  · simp only [if_pos h0]
  by_cases h1 : w = 1
  · simp only [if_neg h0, if_pos h1]
  by_cases h2 : w = 2
  · simp only [if_neg h0, if_neg h1, if_pos h2]
    rw [upd_upd]
  by_cases h3 : w = 3
  · simp only [if_neg h0, if_neg h1, if_neg h2, if_pos h3]
    rw [upd_upd]
  by_cases h4 : w = 4
  · simp only [if_neg h0, if_neg h1, if_neg h2, if_neg h3, if_pos h4]
    rw [upd_upd]
  · simp only [if_neg h0, if_neg h1, if_neg h2, if_neg h3, if_neg h4]
theorem aSup_back {a : aS} {w p : Nat} (hw : w ≤ 4) : aSup a w p (aTr a w p) = a := by
  rcases z_w5 hw with rfl | rfl | rfl | rfl | rfl
  · rfl
  · rfl
  · show (an a, ar a, ak a, upd (am a) p (am a p), as_ a, ah a, ac a, au a) = a
    rw [upd_self]
  · show (an a, ar a, ak a, am a, upd (as_ a) p (as_ a p), ah a, ac a, au a) = a
    rw [upd_self]
  · show (an a, ar a, upd (ak a) p (ak a p), am a, as_ a, ah a, ac a, au a) = a
    rw [upd_self]
theorem aSup_an {a : aS} {w p : Nat} {v : Int32} : an (aSup a w p v) = an a := by
  unfold aSup
  repeat' split
  all_goals rfl
def zOr (f : Nat → Bool) : Nat → Int32
  | 0 => 0
  | v + 1 => if f v = true then zOr f v ||| ((1 : Int32) <<< (nI v &&& 31)) else zOr f v
def zOrT (f : Nat → Bool) : Nat → Int32
  | 0 => 0
  | v + 1 => if f v = true then zOrT f v ||| (if 10 ≤ v then 0 else (1 : Int32) <<< (nI v &&& 31)) else zOrT f v
def zCnt (f : Nat → Bool) : Nat → Int32
  | 0 => 0
  | v + 1 => if f v = true then zCnt f v + 1 else zCnt f v
def zLst (f : Nat → Bool) : Nat → Int32
  | 0 => -1
  | v + 1 => if f v = true then (if zLst f v = -1 then nI v else zLst f v) else zLst f v
theorem zOr_T {f : Nat → Bool} : ∀ {N : Nat}, N ≤ 10 → zOrT f N = zOr f N
  | 0, _ => rfl
  | N + 1, h => by
    rw [zOrT, zOr, zOr_T (N := N) (by omega), if_neg (show ¬ 10 ≤ N by omega)]
def zAns (what : Int32) (b n l : Int32) : Int32 := if what = 3 then n else if what = 4 then l else if what = 5 then n else if what = 6 then l else b
def gHit (tv : zTV) (a : aS) (w p : Nat) (l : List Int32) (v : Nat) : Bool := decide (gUn tv (aSup a w p (nI v)) l = -1)
section ZPUB18
theorem c_rb {g : zG} {s k w p N : Nat} {l : List Int32} {what : Int32} (hs : s < 4) (hw : gW g) (hS : gS g s = some (k, l)) (hw9 : w ≤ 4 ∨ w = 9) (hp : p < an (gA g)) (hN : N ≤ 100) (hok : ∀ v, v < N → aOk (aSup (gA g) w p (nI v)) (gN g)) : ∀ (m q v : Nat) (b : aS) (σ : z_Mem), cG σ g → cM σ 12 b → aW b → an b = an (gA g) → (∀ u, aSup b w p u = aSup (gA g) w p u) → v + m = N → m < q → z_R (fX5_readBack_66 (28 + 2 * s) q (nI p) what (nI w) (nI N) (zOr (gHit (gV g) (gA g) w p l) v) (zCnt (gHit (gV g) (gA g) w p l) v) (zLst (gHit (gV g) (gA g) w p l) v) (nI v) σ) (fun r σ' => r = zAns what (zOr (gHit (gV g) (gA g) w p l) N) (zCnt (gHit (gV g) (gA g) w p l) N) (zLst (gHit (gV g) (gA g) w p l) N) ∧ cG σ' g)
  | m, 0, v, b, σ, _, _, _, _, _, _, h => absurd h (Nat.not_lt_zero _)
  | 0, q + 1, v, b, σ, hc, hM, hW, hn, hb, hv, hq => by
    have : v = N := by omega
    subst this
    rw [fX5_readBack_66, if_pos (nI_le (Nat.le_refl _) (by omega))]
    unfold zAns
    repeat' split
    all_goals exact z_R_some ⟨rfl, hc⟩
  | m + 1, q + 1, v, b, σ, hc, hM, hW, hn, hb, hv, hq => by
    obtain ⟨-, hl⟩ := hw.2.2.2.2.2 s k l hS
    rw [fX5_readBack_66, if_neg (nI_ge (by omega) (by omega))]
    obtain ⟨s1, f1, c1, k1⟩ := c_suppose (v := nI v) (x := nI p) (w := w) (p := p) hM hW hw9 (fun _ _ => ⟨by omega, rfl⟩) (fun _ => by rw [z_xN (by omega)])
    rw [hb (nI v)] at c1
    have hc1 := cG_k hc (cK_mono k1 (fun k hk => by unfold zScr; omega))
    have ho := hok v (by omega)
    have c5 := hc1.2.2.2.2 s hs
    rw [hS] at c5
    obtain ⟨r2, s2, f2, v2, k2⟩ := c_un ho.1 ho.2.1 (by decide) hl c1 hc1.2.2.1 c5
    have hc2 := cG_k hc1 (cK_4 k2)
    have hM2 := cM_k4 c1 k2 (by decide)
    rw [z_bdE f1, z_bdE f2, v2, nI_1]
    have IH := c_rb (what := what) hs hw hS hw9 hp hN hok m q (v + 1) (aSup (gA g) w p (nI v)) s2 hc2 hM2 ho.1 aSup_an (fun u => aSup_sup) (by omega) (by omega)
    by_cases e : gUn (gV g) (aSup (gA g) w p (nI v)) l = -1
    · have hf : gHit (gV g) (gA g) w p l v = true := decide_eq_true e
      rw [zOr, zCnt, zLst, if_pos hf, if_pos hf, if_pos hf] at IH
      rw [if_pos e]
      by_cases e2 : zLst (gHit (gV g) (gA g) w p l) v = -1
      · rw [if_pos e2] at IH
        rw [if_pos e2]
        exact IH
      · rw [if_neg e2] at IH
        rw [if_neg e2]
        exact IH
    · have hf : ¬ gHit (gV g) (gA g) w p l v = true := fun q => e (of_decide_eq_true q)
      rw [zOr, zCnt, zLst, if_neg hf, if_neg hf, if_neg hf] at IH
      rw [if_neg e]
      exact IH
theorem m_rb {g : zG} {s k w p N : Nat} {l : List Int32} {what bef : Int32} (hs : s < 4) (hw : gW g) (hS : gS g s = some (k, l)) (hw5 : w ≤ 5) (hp : p < an (gA g)) (hN : N ≤ 100) (hok : ∀ v, v < N → aOk (aSup (gA g) w p (nI v)) (gN g)) (hbef : aSup (gA g) w p bef = gA g) (hbv : w = 5 → bef = nI (z_x bef)) : ∀ (m q : Nat) (st n ls : Int32) (b : aS) (τ : z_Mem), mG τ (b, g.2) → aW b → an b = an (gA g) → (∀ u, aSup b w p u = aSup (gA g) w p u) → m ≤ N → m < q → z_R (fX6_tells_181 q (nI s) (nI p) what (nI w) bef st n ls (nI m - 1) τ) (fun r τ' => r = zAns what (st ||| zOrT (gHit (gV g) (gA g) w p l) m) (n + zCnt (gHit (gV g) (gA g) w p l) m) (if zLst (gHit (gV g) (gA g) w p l) m = -1 then ls else zLst (gHit (gV g) (gA g) w p l) m) ∧ mG τ' g)
  | m, 0, st, n, ls, b, τ, _, _, _, _, _, h => absurd h (Nat.not_lt_zero _)
  | 0, q + 1, st, n, ls, b, τ, hm, hW, hn, hb, hv, hq => by
    rw [fX6_tells_181, if_pos (by decide)]
    obtain ⟨t1, f1, m1, k1⟩ := m_lays (v := bef) (x := nI p) (w := w) (p := p) hm.1 hW hw5 (fun _ _ => ⟨by rw [hn]; exact hp, rfl⟩) hbv
    have e1 : aSup (gA (b, g.2)) w p bef = gA g := (hb bef).trans hbef
    rw [e1] at m1
    have hm1 : mG t1 g := mG_a (g := (b, g.2)) hm k1 m1
    refine z_R_bdE f1 ?_
    rw [show zOrT (gHit (gV g) (gA g) w p l) 0 = 0 from rfl, show zCnt (gHit (gV g) (gA g) w p l) 0 = 0 from rfl, show zLst (gHit (gV g) (gA g) w p l) 0 = -1 from rfl, Int32.or_zero, Int32.add_zero, if_pos rfl]
    unfold zAns
    by_cases a3 : what = 3
    · rw [if_pos a3, if_pos a3]; exact z_R_some ⟨rfl, hm1⟩
    by_cases a4 : what = 4
    · rw [if_neg a3, if_neg (by rw [a4]; decide), if_pos a4, if_neg a3, if_pos a4]; exact z_R_some ⟨rfl, hm1⟩
    by_cases a5 : what = 5
    · rw [if_neg a3, if_pos a5, if_neg a3, if_neg a4, if_pos a5]; exact z_R_some ⟨rfl, hm1⟩
    by_cases a6 : what = 6
    · rw [if_neg a3, if_neg a5, if_neg a4, if_pos a6, if_neg a3, if_neg a4, if_neg a5, if_pos a6]; exact z_R_some ⟨rfl, hm1⟩
    · rw [if_neg a3, if_neg a5, if_neg a4, if_neg a6, if_neg a3, if_neg a4, if_neg a5, if_neg a6]; exact z_R_some ⟨rfl, hm1⟩
  | m + 1, q + 1, st, n, ls, b, τ, hm, hW, hn, hb, hv, hq => by
    obtain ⟨-, hl⟩ := hw.2.2.2.2.2 s k l hS
    rw [nI_sub1, fX6_tells_181, if_neg (nI_pos (by omega))]
    obtain ⟨t1, f1, m1, k1⟩ := m_lays (v := nI m) (x := nI p) (w := w) (p := p) hm.1 hW hw5 (fun _ _ => ⟨by rw [hn]; exact hp, rfl⟩) (fun _ => by rw [z_xN (by omega)])
    have e1 : aSup (gA (b, g.2)) w p (nI m) = aSup (gA g) w p (nI m) := hb (nI m)
    rw [e1] at m1
    have hm1 : mG t1 (aSup (gA g) w p (nI m), g.2) := mG_a (g := (b, g.2)) hm k1 m1
    have ho := hok m (by omega)
    have m5 : mSheet t1 s (some (k, l)) := by
      have := hm1.2.2.2.2 s hs
      have e : gS (aSup (gA g) w p (nI m), g.2) s = some (k, l) := hS
      rw [e] at this
      exact this
    obtain ⟨r2, t2, f2, v2, k2⟩ := m_un hs ho.1 ho.2.1 hl hm1.1 hm1.2.2.1 m5
    have hm2 := mG_k hm1 k2
    rw [z_bdE f1, z_bdE f2, v2]
    have em : nI m + (-1 : Int32) = nI m - 1 := by rw [Int32.sub_eq_add_neg]
    rw [em]
    have IH := fun st n ls => m_rb (what := what) hs hw hS hw5 hp hN hok hbef hbv m q st n ls (aSup (gA g) w p (nI m)) t2 hm2 ho.1 aSup_an (fun u => aSup_sup) (by omega) (by omega)
    have hV : gV (aSup (gA g) w p (nI m), g.2) = gV g := rfl
    rw [hV]
    by_cases e : gUn (gV g) (aSup (gA g) w p (nI m)) l = -1
    · have hf : gHit (gV g) (gA g) w p l m = true := decide_eq_true e
      rw [if_pos e, zOrT, zCnt, zLst, if_pos hf, if_pos hf, if_pos hf]
      have eL : (if (if zLst (gHit (gV g) (gA g) w p l) m = -1 then nI m else zLst (gHit (gV g) (gA g) w p l) m) = -1 then ls else (if zLst (gHit (gV g) (gA g) w p l) m = -1 then nI m else zLst (gHit (gV g) (gA g) w p l) m)) = (if zLst (gHit (gV g) (gA g) w p l) m = -1 then nI m else zLst (gHit (gV g) (gA g) w p l) m) := by
        by_cases q : zLst (gHit (gV g) (gA g) w p l) m = -1
        · rw [if_pos q, if_neg (nI_neg1 (by omega))]
        · rw [if_neg q, if_neg q]
      have eN : n + (zCnt (gHit (gV g) (gA g) w p l) m + 1) = n + 1 + zCnt (gHit (gV g) (gA g) w p l) m := by
        rw [Int32.add_assoc, Int32.add_comm 1]
      rw [eL, eN]
      have eO : ∀ x : Int32, st ||| (zOrT (gHit (gV g) (gA g) w p l) m ||| x) = st ||| x ||| zOrT (gHit (gV g) (gA g) w p l) m := fun x => by
        rw [Int32.or_assoc, Int32.or_comm x]
      rw [eO]
      by_cases e10 : 10 ≤ m
      · rw [if_pos (z_lle 10 10 (by decide) e10 (by omega)), if_pos e10]
        exact IH (st ||| 0) (n + 1) (nI m)
      · rw [if_neg (z_nle 10 10 (by decide) (by omega) (by decide)), if_neg e10]
        exact IH _ (n + 1) (nI m)
    · have hf : ¬ gHit (gV g) (gA g) w p l m = true := fun q => e (of_decide_eq_true q)
      rw [if_neg e, zOrT, zCnt, zLst, if_neg hf, if_neg hf, if_neg hf]
      exact IH st n ls
end ZPUB18
