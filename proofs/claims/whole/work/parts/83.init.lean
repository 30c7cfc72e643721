/-! the first TEXT -/
def t0L : List Int32 := z_byt.getD 0 []
def t0M : List Int32 := z_byt.getD 0 [] ++ [32, 32, 32, 32, 32]
def pCod (r : Option ((pV × List Int32) × (pV × List Int32) × (pV × List Int32)) × Nat) : Option (List Int32 × List Int32 × List Int32) := match r with
  | (none, _) => none
  | (some (a, b, c), _) => some (a.2, b.2, c.2)
set_option maxRecDepth 100000 in
theorem t0_L : pCod (pRead t0L) = some ([10000, 10004, 20045], [3], [1]) := by decide +kernel
set_option maxRecDepth 100000 in
theorem t0_M : pCod (pRead t0M) = some ([10000, 10004, 20045], [3], [1]) := by decide +kernel
theorem pRead_W {L : List Int32} (hL : tOk L) {a b c : pV × List Int32} {s : Nat} (h : pRead L = (some (a, b, c), s)) : zSays a.2 a.1 31 ∧ zSays b.2 b.1 31 ∧ zSays c.2 c.1 31 := by
  unfold pRead at h
  have W := pPart_W hL (k := 0) (p := 0) (Nat.zero_le _)
  generalize pPart L 0 0 = r at W h
  rcases r with ⟨_ | a', p1⟩
  · cases h
  have h1 : p1 ≤ L.length := W.2.1
  have W1 := W.2.2.2
  replace h : (match pPart L 1 p1 with
    | (none, p) => (none, tS L p)
    | (some b, p2) => (match pPart L 2 p2 with
      | (none, p) => (none, tS L p)
      | (some c, p3) => if tT L p3 = 0 then ((some (a', b, c), 0) : Option ((pV × List Int32) × (pV × List Int32) × (pV × List Int32)) × Nat) else (none, tS L p3))) = (some (a, b, c), s) := h
  have W := pPart_W hL (k := 1) (p := p1) h1
  generalize pPart L 1 p1 = r at W h
  rcases r with ⟨_ | b', p2⟩
  · cases h
  have h2 : p2 ≤ L.length := W.2.1
  have W2 := W.2.2.2
  replace h : (match pPart L 2 p2 with
      | (none, p) => (none, tS L p)
      | (some c, p3) => if tT L p3 = 0 then ((some (a', b', c), 0) : Option ((pV × List Int32) × (pV × List Int32) × (pV × List Int32)) × Nat) else (none, tS L p3)) = (some (a, b, c), s) := h
  have W := pPart_W hL (k := 2) (p := p2) h2
  generalize pPart L 2 p2 = r at W h
  rcases r with ⟨_ | c', p3⟩
  · cases h
  have W3 := W.2.2.2
  replace h : (if tT L p3 = 0 then ((some (a', b', c'), 0) : Option ((pV × List Int32) × (pV × List Int32) × (pV × List Int32)) × Nat) else (none, tS L p3)) = (some (a, b, c), s) := h
  split at h
  · cases h
    exact ⟨W1, W2, W3⟩
  · cases h
theorem zSays_fun {C : List Int32} {V V' : pV} (h : zSays C V 31) (h' : zSays C V' 31) : V = V' := by
  funext e
  have h1 := h e [] [] (by simp)
  have h2 := h' e [] [] (by simp)
  rw [h1] at h2
  have : (some [V e] : Option (List Int32)) = some [V' e] := h2
  exact (List.cons.inj (Option.some.inj this)).1
theorem t0_ok : tOk t0L ∧ tOk t0M := by
  refine ⟨⟨by decide, ?_⟩, ⟨by decide, ?_⟩⟩ <;> decide
theorem pCod_some {r : Option ((pV × List Int32) × (pV × List Int32) × (pV × List Int32)) × Nat} {x y z : List Int32} (h : pCod r = some (x, y, z)) : ∃ A B C s, r = (some ((A, x), (B, y), (C, z)), s) := by
  rcases r with ⟨_ | ⟨⟨A, x'⟩, ⟨B, y'⟩, ⟨C, z'⟩⟩, s⟩
  · cases h
  · cases h
    exact ⟨A, B, C, s, rfl⟩
/-- both read the first TEXT alike -/
theorem t0_both : ∃ (A B C : pV) (s s' : Nat), pRead t0L = (some ((A, [10000, 10004, 20045]), (B, [3]), (C, [1])), s) ∧ pRead t0M = (some ((A, [10000, 10004, 20045]), (B, [3]), (C, [1])), s') := by
  obtain ⟨A, B, C, s, h⟩ := pCod_some t0_L
  obtain ⟨A', B', C', s', h'⟩ := pCod_some t0_M
  obtain ⟨w1, w2, w3⟩ := pRead_W t0_ok.1 h
  obtain ⟨v1, v2, v3⟩ := pRead_W t0_ok.2 h'
  have e1 : A' = A := zSays_fun v1 w1
  have e2 : B' = B := zSays_fun v2 w2
  have e3 : C' = C := zSays_fun v3 w3
  subst e1; subst e2; subst e3
  exact ⟨A', B', C', s, s', h, h'⟩
/-! the two objects at first -/
def a0 : aS := (0, [], fun _ => 0, fun _ => 0, fun _ => 0, 0, 0, 0)
def g0 (A B C : pV) : zG := (a0, none, tvNew (fun _ _ _ => 0) 0 A B C, 1, [], fun _ => none)
theorem z_i0 : 0 ≤ (0 : Int32).toInt := by decide
theorem z_i0n {n : Int} (h : 0 ≤ n) : (0 : Int32).toInt ≤ n := h
theorem a0_W : aW a0 := ⟨Nat.zero_le _, List.nodup_nil, fun p hp => absurd hp List.not_mem_nil, Nat.le_refl _, fun i _ => ⟨⟨z_i0, z_i0n (by decide)⟩, ⟨z_i0, z_i0n (by decide)⟩, ⟨z_i0, z_i0n (by decide)⟩⟩, ⟨z_i0, z_i0n (by decide)⟩, ⟨z_i0, z_i0n (by decide)⟩⟩
theorem g0_W {A B C : pV} : gW (g0 A B C) := by
  refine ⟨⟨a0_W, Nat.zero_lt_one, z_i0n (by decide)⟩, ?_, (by decide : 1 ≤ 6), Nat.zero_le _, fun x hx => absurd hx List.not_mem_nil, ?_⟩
  · intro b hb
    have : (none : Option aS) = some b := hb
    cases this
  · intro s k l h
    have : (none : Option (Nat × List Int32)) = some (k, l) := h
    cases this
/-- the class's memory as its constructor makes it, ahead of the first TEXT -/
def zS0 : z_Mem := (fun k j => if (k = 28 ∨ k = 30 ∨ k = 32 ∨ k = 34) ∧ j = 1 then -1 else 0, fun _ _ => 0)
theorem c_add {σ : z_Mem} {L : List Int32} {x : Int32} (h : cTp σ L) (hl : L.length < 160) : fX2_add x σ = some (1, z_pt (z_pt σ 6 L.length x) 5 2 (nI (L.length + 1))) ∧ cTp (z_pt (z_pt σ 6 L.length x) 5 2 (nI (L.length + 1))) (L ++ [x]) := by
  refine ⟨?_, ?_, fun i hi => ?_⟩
  · unfold fX2_add
    rw [h.1, if_pos (by rw [show (160 : Int32) = nI 160 by decide]; exact nI_lt hl (by decide)), z_gdT (z_inN hl (by decide)), z_stE, z_stE, z_xN (by omega), z_pt_3 (by decide), h.1, nI_1]
  · rw [z_pt_1]; simp
  · rw [z_pt_3 (by decide), z_gd_tp]
    by_cases q : i = L.length
    · rw [q, z_pt_1, if_pos rfl]
    · have : i < L.length + 1 := by simpa using hi
      rw [z_pt_2 q, if_neg q]; exact h.2 i (by omega)
theorem c_init {A B C : pV} {s : Nat} {σ : z_Mem} (hR : pRead t0L = (some ((A, [10000, 10004, 20045]), (B, [3]), (C, [1])), s)) (ht : cTp σ t0L) (h0 : ∀ k, k ≠ 5 → k ≠ 6 → σ.1 k = zS0.1 k) : z_R (fX2_read σ) (fun _ σ' => cG σ' (g0 A B C)) := by
  have z0 : ∀ k j, ¬ ((k = 28 ∨ k = 30 ∨ k = 32 ∨ k = 34) ∧ j = 1) → zS0.1 k j = 0 := fun k j h => if_neg h
  have h13 : σ.1 1 3 = nI 0 := by rw [h0 1 (by decide) (by decide)]; exact z0 1 3 (by omega)
  refine z_R_mono (c_read t0_ok.1 (n := 0) (by omega) h13 ht) (fun b σ' hh => ?_)
  obtain ⟨R, T⟩ := hh
  rw [hR] at T
  obtain ⟨-, t13, x1, x2, x3, x4, x5, x6, x7, x8, x9, x10⟩ := T
  have hk : ∀ k j, k ≠ 1 → k ≠ 2 → k ≠ 3 → k ≠ 5 → k ≠ 6 → σ'.1 k j = zS0.1 k j := fun k j a b c d e => by rw [R.1 k a b c d, h0 k d e]
  have hT0 : cT σ (fun _ _ _ => 0) 0 := ⟨h13, by omega, fun t ht => absurd ht (Nat.not_lt_zero _)⟩
  refine ⟨⟨?_, ?_, ?_, ?_, ?_, fun i _ => ⟨?_, ?_, ?_⟩, fun i hi => absurd hi (Nat.not_lt_zero _)⟩, ?_, cT_new hT0 (by omega) t13 R.2.1 R.2.2.1 x1 x2 x3 x4 x5 x6 x7 x8 x9 x10, ⟨R.2.2.2.1, fun i hi => absurd hi (Nat.not_lt_zero _)⟩, fun s hs => ?_⟩
  · rw [hk 7 5 (by decide) (by decide) (by decide) (by decide) (by decide)]; exact z0 7 5 (by omega)
  · rw [hk 7 6 (by decide) (by decide) (by decide) (by decide) (by decide)]; exact z0 7 6 (by omega)
  · rw [hk 7 7 (by decide) (by decide) (by decide) (by decide) (by decide)]; exact z0 7 7 (by omega)
  · rw [hk 7 8 (by decide) (by decide) (by decide) (by decide) (by decide)]; exact z0 7 8 (by omega)
  · rw [hk 7 9 (by decide) (by decide) (by decide) (by decide) (by decide)]; exact z0 7 9 (by omega)
  · rw [hk (7 + 1) i (by decide) (by decide) (by decide) (by decide) (by decide)]; exact z0 _ _ (by omega)
  · rw [hk (7 + 2) i (by decide) (by decide) (by decide) (by decide) (by decide)]; exact z0 _ _ (by omega)
  · rw [hk (7 + 3) i (by decide) (by decide) (by decide) (by decide) (by decide)]; exact z0 _ _ (by omega)
  · show σ'.1 0 7 = 0
    rw [hk 0 7 (by decide) (by decide) (by decide) (by decide) (by decide)]; exact z0 0 7 (by omega)
  · refine ⟨?_, ?_⟩
    · rw [hk _ 1 (by omega) (by omega) (by omega) (by omega) (by omega)]
      exact if_pos ⟨by omega, rfl⟩
    · rw [hk _ 2 (by omega) (by omega) (by omega) (by omega) (by omega)]
      exact z0 _ _ (by omega)
/-- the reference's memory as its constructor makes it -/
def zM0 : z_Mem := (fun k j => if k = 1 then t0M.getD j 0 else if k = 2 ∧ j = 0 then 48 else if k = 0 ∧ j = 3 then 1 else if k = 0 ∧ j = 35 then -1 else 0, fun _ _ => 0)
theorem m_init {A B C : pV} {s : Nat} (hR : pRead t0M = (some ((A, [10000, 10004, 20045]), (B, [3]), (C, [1])), s)) : mG zM0 (g0 A B C) := by
  have z0 : ∀ k j, k ≠ 1 → ¬ (k = 2 ∧ j = 0) → ¬ (k = 0 ∧ j = 3) → ¬ (k = 0 ∧ j = 35) → zM0.1 k j = 0 := fun k j a b c d => by
    show (if k = 1 then _ else _) = _
    rw [if_neg a, if_neg b, if_neg c, if_neg d]
  have hT0 : mT (z_pt zM0 0 3 0) (fun _ _ _ => 0) 0 := ⟨z_pt_1, by omega, fun t ht => absurd ht (Nat.not_lt_zero _)⟩
  refine ⟨⟨?_, ?_, ?_, ?_, ?_, fun i _ => ⟨?_, ?_, ?_⟩, fun i hi => absurd hi (Nat.not_lt_zero _)⟩, ?_, mT_new (L := t0M) t0_ok.2 hT0 (by omega) rfl (fun j hj => absurd hj (by omega)) (fun j hj => absurd hj (by omega)) rfl (fun i hi => ?_) hR, ⟨z0 0 6 (by omega) (by omega) (by omega) (by omega), fun i hi => absurd hi (Nat.not_lt_zero _)⟩, fun s hs => z0 11 s (by omega) (by omega) (by omega) (by omega)⟩
  · exact z0 0 10 (by omega) (by omega) (by omega) (by omega)
  · exact z0 0 12 (by omega) (by omega) (by omega) (by omega)
  · exact z0 0 7 (by omega) (by omega) (by omega) (by omega)
  · exact z0 0 8 (by omega) (by omega) (by omega) (by omega)
  · exact z0 0 4 (by omega) (by omega) (by omega) (by omega)
  · exact z0 4 _ (by omega) (by omega) (by omega) (by omega)
  · exact z0 4 _ (by omega) (by omega) (by omega) (by omega)
  · exact z0 4 _ (by omega) (by omega) (by omega) (by omega)
  · show zM0.1 0 35 = -1
    rfl
  · rw [Nat.mul_zero, Nat.zero_add]; rfl
