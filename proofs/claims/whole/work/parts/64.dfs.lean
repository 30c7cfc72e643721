/-! all orders, gone through: the pure search -/
abbrev oS : Type := List Nat × Int32
def oLp (F : Nat → oS → oS) : Nat → Nat → oS → oS
  | 0, _, s => s
  | m + 1, p, s => oLp F m (p + 1) (F p s)
def oDfs (W : List Nat → Int32) : Nat → List Nat → List Nat → oS → oS
  | 0, pre, _, s => if s.2 < W pre then (pre, W pre) else s
  | k + 1, pre, rem, s => oLp (fun p s => if p ∈ rem then oDfs W k (pre ++ [p]) (rem.erase p) s else s) 6 0 s
def oLn (f : Nat → Int32) : Nat → Int32
  | 0 => 99
  | i + 1 => z_mn (oLn f i) (f i)
theorem oLn_spec {f : Nat → Int32} : ∀ n, oLn f n ≤ 99 ∧ (∀ i, i < n → oLn f n ≤ f i) ∧ (oLn f n = 99 ∨ ∃ i, i < n ∧ oLn f n = f i)
  | 0 => ⟨Int32.le_refl _, fun i h => by omega, Or.inl rfl⟩
  | n + 1 => by
    obtain ⟨h1, h2, h3⟩ := oLn_spec (f := f) n
    rw [oLn]
    refine ⟨Int32.le_trans z_mn_l h1, fun i hi => ?_, ?_⟩
    · by_cases e : i = n
      · rw [e]; exact z_mn_r
      · exact Int32.le_trans z_mn_l (h2 i (by omega))
    · rcases z_mn_or (x := oLn f n) (y := f n) with e | e
      · rw [e]
        rcases h3 with h | ⟨i, hi, h⟩
        · exact Or.inl h
        · exact Or.inr ⟨i, by omega, h⟩
      · exact Or.inr ⟨n, by omega, e⟩
theorem oLn_congr {f g : Nat → Int32} : ∀ n, (∀ i, i < n → f i = g i) → oLn f n = oLn g n
  | 0, _ => rfl
  | n + 1, h => by rw [oLn, oLn, oLn_congr n (fun i hi => h i (by omega)), h n (by omega)]
/-- the least hold along a row, 99 at most -/
def oL (tv : zTV) (a : aS) (pre : List Nat) : Int32 := oLn (fun i => gHold tv a (pre.getD i 0) (pre.getD (i + 1) 0)) (pre.length - 1)
theorem z_getD_app {l m : List Nat} {i : Nat} (h : i < l.length) : (l ++ m).getD i 0 = l.getD i 0 := by
  simp [List.getD, List.getElem?_append_left h]
theorem z_getD_last {l : List Nat} {p : Nat} : (l ++ [p]).getD l.length 0 = p := by
  simp [List.getD]
theorem oL_snoc {tv : zTV} {a : aS} {pre : List Nat} {p : Nat} (h : 0 < pre.length) : oL tv a (pre ++ [p]) = z_mn (oL tv a pre) (gHold tv a (pre.getD (pre.length - 1) 0) p) := by
  unfold oL
  have e : (pre ++ [p]).length - 1 = (pre.length - 1) + 1 := by simp; omega
  rw [e, oLn]
  congr 1
  · exact oLn_congr _ (fun i hi => by rw [z_getD_app (by omega), z_getD_app (by omega)])
  · rw [z_getD_app (by omega), show pre.length - 1 + 1 = pre.length by omega, z_getD_last]
theorem oL_W {tv : zTV} {a : aS} {r : List Nat} (hr : oR a r) (hw : aW a) (h2 : 2 ≤ r.length) : z_mn (oL tv a r) (gHold tv a (r.getD (r.length - 1) 0) (r.getD 0 0)) = gWeak tv (aRing a r) := by
  have hW := oR_W hr hw
  have hN : aN (aRing a r) = r.length := if_neg (by show ¬ r.length < 2; omega)
  have eg : gHold tv a (r.getD (r.length - 1) 0) (r.getD 0 0) = gH tv (aRing a r) (r.length - 1) := by
    rw [gH_aring hr, show r.length - 1 + 1 = r.length by omega, Nat.mod_self]
  have ei : ∀ i, i < r.length - 1 → gHold tv a (r.getD i 0) (r.getD (i + 1) 0) = gH tv (aRing a r) i := fun i hi => by
    rw [gH_aring hr, Nat.mod_eq_of_lt (by omega)]
  obtain ⟨l1, l2, l3⟩ := oLn_spec (f := fun i => gHold tv a (r.getD i 0) (r.getD (i + 1) 0)) (r.length - 1)
  have l1' : oL tv a r ≤ 99 := l1
  have l2' : ∀ i, i < r.length - 1 → oL tv a r ≤ gH tv (aRing a r) i := fun i hi => by rw [← ei i hi]; exact l2 i hi
  unfold gWeak
  rw [hN, eg]
  refine oMin_eq (f := gH tv (aRing a r)) (n := r.length) ⟨?_, fun i hi => ?_⟩ (zWk_min (by omega) (fun j hj => gH_ne hW hj))
  · rcases z_mn_or (x := oL tv a r) (y := gH tv (aRing a r) (r.length - 1)) with e | e
    · rcases l3 with h | ⟨i, hi, h⟩
      · have h' : oL tv a r = 99 := h
        refine ⟨r.length - 1, by omega, ?_⟩
        have q1 : z_mn (oL tv a r) (gH tv (aRing a r) (r.length - 1)) ≤ gH tv (aRing a r) (r.length - 1) := z_mn_r
        rw [e, h'] at q1
        rw [e, h']
        have q2 := (gH_in (tv := tv) hW (show r.length - 1 < (ar (aRing a r)).length by show r.length - 1 < r.length; omega)).2
        apply Int32.le_antisymm q1
        rw [Int32.le_iff_toInt_le]
        exact q2
      · have h' : oL tv a r = gHold tv a (r.getD i 0) (r.getD (i + 1) 0) := h
        exact ⟨i, by omega, by rw [e, h', ei i hi]⟩
    · exact ⟨r.length - 1, by omega, e⟩
  · by_cases e : i = r.length - 1
    · rw [e]; exact z_mn_r
    · exact Int32.le_trans z_mn_l (l2' i (by omega))
theorem oLp_id {F : Nat → oS → oS} {s : oS} : ∀ (m p : Nat), (∀ q, p ≤ q → q < p + m → F q s = s) → oLp F m p s = s
  | 0, _, _ => rfl
  | m + 1, p, h => by rw [oLp, h p (by omega) (by omega)]; exact oLp_id m (p + 1) (fun q a b => h q (by omega) (by omega))
theorem oP_step {pre rem l : List Nat} {p : Nat} (h : (pre ++ rem).Perm l) (hp : p ∈ rem) : (pre ++ [p] ++ rem.erase p).Perm l := by
  rw [List.append_assoc]
  exact (List.Perm.append_left pre (List.perm_cons_erase hp).symm).trans h
theorem oDfs_prune {tv : zTV} {a : aS} {N : Nat} (hw : aW a) (hN : N = (ar a).length) (h2 : 2 ≤ N) : ∀ (k : Nat) (pre rem : List Nat) (s : oS), (pre ++ rem).Perm (ar a) → rem.length = k → 0 < pre.length → oL tv a pre ≤ s.2 → oDfs (fun r => gWeak tv (aRing a r)) k pre rem s = s
  | 0, pre, rem, s, hp, hk, h0, hl => by
    have e : rem = [] := List.length_eq_zero_iff.mp hk
    subst e
    rw [List.append_nil] at hp
    rw [oDfs, if_neg]
    intro q
    have hr : oR a pre := hp
    have := oL_W (tv := tv) hr hw (by rw [oR_len hr]; omega)
    have h3 : gWeak tv (aRing a pre) ≤ oL tv a pre := by rw [← this]; exact z_mn_l
    exact Int32.lt_irrefl (Int32.lt_of_lt_of_le q (Int32.le_trans h3 hl))
  | k + 1, pre, rem, s, hp, hk, h0, hl => by
    rw [oDfs]
    refine oLp_id 6 0 (fun q _ _ => ?_)
    by_cases e : q ∈ rem
    · rw [if_pos e]
      refine oDfs_prune hw hN h2 k (pre ++ [q]) (rem.erase q) s (oP_step hp e) (by rw [List.length_erase_of_mem e]; omega) (by simp) ?_
      rw [oL_snoc h0]
      exact Int32.le_trans z_mn_l hl
    · rw [if_neg e]
theorem oLp_ne {F : Nat → oS → oS} : ∀ (m p : Nat) (s : oS), (∀ q s, ¬ s.2 = -1 → ¬ (F q s).2 = -1) → (¬ s.2 = -1 ∨ ∃ q, p ≤ q ∧ q < p + m ∧ ∀ s, ¬ (F q s).2 = -1) → ¬ (oLp F m p s).2 = -1
  | 0, p, s, hF, h => by
    rcases h with h | ⟨q, a, b, _⟩
    · exact h
    · omega
  | m + 1, p, s, hF, h => by
    rw [oLp]
    refine oLp_ne m (p + 1) _ hF ?_
    rcases h with h | ⟨q, a, b, c⟩
    · exact Or.inl (hF p s h)
    · by_cases e : q = p
      · rw [← e]; exact Or.inl (c s)
      · exact Or.inr ⟨q, by omega, by omega, c⟩
theorem oDfs_ne {W : List Nat → Int32} {l : List Nat} (hW : ∀ r, r.Perm l → 0 ≤ (W r).toInt) : ∀ (k : Nat) (pre rem : List Nat) (s : oS), (pre ++ rem).Perm l → rem.length = k → ¬ s.2 = -1 → ¬ (oDfs W k pre rem s).2 = -1
  | 0, pre, rem, s, hp, hk, h => by
    have e : rem = [] := List.length_eq_zero_iff.mp hk
    subst e
    rw [List.append_nil] at hp
    rw [oDfs]
    split
    · intro e
      have e' : W pre = -1 := e
      have := hW pre hp
      rw [e'] at this
      exact absurd this (by decide)
    · exact h
  | k + 1, pre, rem, s, hp, hk, h => by
    rw [oDfs]
    refine oLp_ne 6 0 s (fun q s hs => ?_) (Or.inl h)
    split
    · rename_i e
      exact oDfs_ne hW k _ _ s (oP_step hp e) (by rw [List.length_erase_of_mem e]; omega) hs
    · exact hs
theorem oDfs_hit {W : List Nat → Int32} {l : List Nat} (hW : ∀ r, r.Perm l → 0 ≤ (W r).toInt) : ∀ (k : Nat) (pre rem : List Nat) (s : oS), (pre ++ rem).Perm l → rem.length = k → (∀ p ∈ rem, p < 6) → ¬ (oDfs W k pre rem s).2 = -1
  | 0, pre, rem, s, hp, hk, h6 => by
    have e : rem = [] := List.length_eq_zero_iff.mp hk
    subst e
    rw [List.append_nil] at hp
    rw [oDfs]
    split
    · intro e
      have e' : W pre = -1 := e
      have := hW pre hp
      rw [e'] at this
      exact absurd this (by decide)
    · rename_i h
      intro e
      rw [e, Int32.lt_iff_toInt_lt] at h
      exact h (Int.lt_of_lt_of_le (by decide) (hW pre hp))
  | k + 1, pre, rem, s, hp, hk, h6 => by
    rw [oDfs]
    match rem, hk, hp, h6 with
    | p :: rem, hk, hp, h6 =>
      refine oLp_ne 6 0 s (fun q s hs => ?_) (Or.inr ⟨p, by omega, by have := h6 p List.mem_cons_self; omega, fun s => ?_⟩)
      · split
        · rename_i e
          exact oDfs_ne hW k _ _ s (oP_step hp e) (by rw [List.length_erase_of_mem e]; omega) hs
        · exact hs
      · rw [if_pos List.mem_cons_self]
        refine oDfs_hit hW k _ _ s (oP_step hp List.mem_cons_self) (by rw [List.length_erase_of_mem List.mem_cons_self]; simpa using hk) (fun q hq => h6 q (List.mem_of_mem_erase hq))
/-! masks -/
def zClr (M i : Nat) : Nat := if M.testBit i = true then M - 2 ^ i else M
theorem z_bitT : ∀ M, M < 64 → ∀ i, i < 6 → decide ((nI M >>> (nI i &&& 31)) &&& (1 : Int32) = 1) = M.testBit i := by decide +kernel
theorem z_bitC : ∀ M, M < 64 → ∀ i, i < 6 → nI M &&& (((1 : Int32) <<< (nI i &&& 31)) ^^^ (-1 : Int32)) = nI (zClr M i) ∧ zClr M i < 64 := by decide +kernel
theorem z_bitS : ∀ M, M < 64 → ∀ i, i < 6 → nI M ||| ((1 : Int32) <<< (nI i &&& 31)) = nI (M ||| 2 ^ i) ∧ M ||| 2 ^ i < 64 := by decide +kernel
theorem z_clrB : ∀ M, M < 64 → ∀ i, i < 6 → ∀ j, j < 6 → (zClr M i).testBit j = (M.testBit j && (j != i)) := by decide +kernel
theorem z_setB : ∀ M, M < 64 → ∀ i, i < 6 → ∀ j, j < 6 → (M ||| 2 ^ i).testBit j = (M.testBit j || (j == i)) := by decide +kernel
/-- the mask M says who is left -/
def oMk (M : Nat) (rem : List Nat) : Prop := M < 64 ∧ ∀ p, p < 6 → (M.testBit p = true ↔ p ∈ rem)
theorem oMk_bit {M p : Nat} {rem : List Nat} (h : oMk M rem) (hp : p < 6) : (nI M >>> (nI p &&& 31)) &&& (1 : Int32) = 1 ↔ p ∈ rem := by
  rw [← h.2 p hp, ← z_bitT M h.1 p hp]
  simp
theorem oMk_clr {M p : Nat} {rem : List Nat} (h : oMk M rem) (hp : p < 6) (hn : rem.Nodup) : oMk (zClr M p) (rem.erase p) := by
  refine ⟨(z_bitC M h.1 p hp).2, fun q hq => ?_⟩
  rw [z_clrB M h.1 p hp q hq, hn.mem_erase_iff]
  simp [h.2 q hq, and_comm]
