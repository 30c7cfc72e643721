/-! the pure parser -/
abbrev pV : Type := (Nat → Int32) → Int32
abbrev pR : Type := Option (pV × List Int32) × Nat
section ZPAR
variable (L : List Int32)
def pLoop (isOp : Int32 → Bool) (G : Nat → pR) : Nat → pV → List Int32 → Nat → pR
  | 0, _, _, p => (none, p)
  | q + 1, V, C, p => if isOp (tT L p) = true then (match G (tN L p) with
      | (none, p2) => (none, p2)
      | (some (V2, C2), p2) => pLoop isOp G q (fun e => zop (tT L p) (V e) (V2 e)) (C ++ C2 ++ [20000 + tT L p]) p2) else (some (V, C), p)
def pBin (isOp : Int32 → Bool) (G : Nat → pR) (p : Nat) : pR := match G p with
  | (none, p2) => (none, p2)
  | (some (V, C), p2) => pLoop L isOp G 161 V C p2
def pOr (c : Int32) : Bool := c == 265
def pAnd (c : Int32) : Bool := c == 266
def pAdd (c : Int32) : Bool := c == 43 || c == 45
def pMul (c : Int32) : Bool := c == 42
def pNot (G2 : Nat → pR) (G3 : Nat → pR) (o p : Nat) : pR :=
  if tT L p = 267 then (if o < 5 then (match G2 (tN L p) with
    | (none, p2) => (none, p2)
    | (some (V, C), p2) => (some (fun e => zop 267 (V e) (V e), C ++ [20267]), p2)) else (none, p))
  else (match G3 p with
    | (none, p2) => (none, p2)
    | (some (V, C), p2) => if tT L p2 = 60 ∨ tT L p2 = 61 then (match G3 (tN L p2) with
        | (none, p3) => (none, p3)
        | (some (V2, C2), p3) => (some (fun e => zop (tT L p2) (V e) (V2 e), C ++ C2 ++ [20000 + tT L p2]), p3)) else (some (V, C), p2))
def pOne (G5 : Nat → pR) (G0 : Nat → pR) (o p : Nat) : pR :=
  if tT L p = 2 then (some (fun _ => tV L p, [tV L p]), tN L p)
  else if 256 ≤ tT L p ∧ tT L p < 262 then (some (fun e => e (z_x (tT L p - 256)), [10000 + tT L p - 256]), tN L p)
  else if 5 ≤ o then (none, p)
  else if tT L p = 45 then (match G5 (tN L p) with
    | (none, p2) => (none, p2)
    | (some (V, C), p2) => (some (fun e => zop 3 (V e) (V e), C ++ [20003]), p2))
  else if tT L p = 40 then (match G0 (tN L p) with
    | (none, p2) => (none, p2)
    | (some (V, C), p2) => if tT L p2 = 41 then (some (V, C), tN L p2) else (none, p2))
  else (none, p)
def pG : Nat → Nat → Nat → Nat → pR
  | 0, _, _, p => (none, p)
  | f + 1, t, o, p => if t = 0 then pBin L pOr (pG f 1 o) p else if t = 1 then pBin L pAnd (pG f 2 o) p
    else if t = 2 then pNot L (pG f 2 (o + 1)) (pG f 3 o) o p else if t = 3 then pBin L pAdd (pG f 4 o) p
    else if t = 4 then pBin L pMul (pG f 5 o) p else pOne L (pG f 5 (o + 1)) (pG f 0 (o + 1)) o p
end ZPAR
/-- codes say a value on a stack with room for d -/
def zSays (C : List Int32) (V : pV) (d : Nat) : Prop := ∀ (e : Nat → Int32) (st rest : List Int32), st.length + d ≤ 64 → zrun e (C ++ rest) st = zrun e rest (V e :: st)
theorem zSays_mono {C : List Int32} {V : pV} {d d' : Nat} (h : zSays C V d) (hd : d ≤ d') : zSays C V d' := fun e st rest hs => h e st rest (by omega)
/-- what comes out at a place p: it lies behind, its codes are few, they say it -/
def pW (L : List Int32) (d p : Nat) (r : pR) : Prop := match r with
  | (none, p') => p ≤ p' ∧ p' ≤ L.length
  | (some (V, C), p') => p < p' ∧ p' ≤ L.length ∧ C.length ≤ p' - p ∧ zSays C V d
theorem zSays_bin {C C2 : List Int32} {V V2 : pV} {d c : Nat} (h : zSays C V (d + 1)) (h2 : zSays C2 V2 d) (hc : c < 1000) (h3 : ¬ c = 3) (h267 : ¬ c = 267) : zSays (C ++ C2 ++ [20000 + nI c]) (fun e => zop (nI c) (V e) (V2 e)) (d + 1) := by
  intro e st rest hs
  have ec : (20000 : Int32) + nI c = nI (20000 + c) := by rw [show (20000 : Int32) = nI 20000 by decide, nI_add]
  have es : nI (20000 + c) - 20000 = nI c := by rw [show (20000 : Int32) = nI 20000 by decide, pk_sub (by omega)]; exact congrArg nI (by omega)
  rw [List.append_assoc, List.append_assoc, h e st _ hs, h2 e (V e :: st) _ (by simp; omega), ec, List.singleton_append, zrun, if_pos (by rw [show (20000 : Int32) = nI 20000 by decide]; exact nI_le (by omega) (by omega)), if_neg, es]
  rw [show (20003 : Int32) = nI 20003 by decide, show (20267 : Int32) = nI 20267 by decide, z_eq_nI (by omega) (by omega), z_eq_nI (by omega) (by omega)]
  omega
theorem zSays_un {C : List Int32} {V : pV} {d c : Nat} (h : zSays C V d) (hc : c = 3 ∨ c = 267) : zSays (C ++ [nI (20000 + c)]) (fun e => zop (nI c) (V e) (V e)) d := by
  intro e st rest hs
  have es : nI (20000 + c) - 20000 = nI c := by rw [show (20000 : Int32) = nI 20000 by decide, pk_sub (by omega)]; exact congrArg nI (by omega)
  rw [List.append_assoc, h e st _ hs, List.singleton_append, zrun, if_pos (by rw [show (20000 : Int32) = nI 20000 by decide]; exact nI_le (by omega) (by omega)), if_pos, es]
  rcases hc with rfl | rfl
  · exact Or.inl (by decide)
  · exact Or.inr (by decide)
/-- a TOKEN that is an operator -/
def pOpOk (isOp : Int32 → Bool) : Prop := ∀ c, isOp c = true → ∃ k, c = nI k ∧ k < 1000 ∧ 0 < k ∧ ¬ k = 3 ∧ ¬ k = 267
theorem pOr_ok : pOpOk pOr := fun c h => ⟨265, by rw [show c = 265 by simpa [pOr] using h]; decide, by omega, by omega, by omega, by omega⟩
theorem pAnd_ok : pOpOk pAnd := fun c h => ⟨266, by rw [show c = 266 by simpa [pAnd] using h]; decide, by omega, by omega, by omega, by omega⟩
theorem pMul_ok : pOpOk pMul := fun c h => ⟨42, by rw [show c = 42 by simpa [pMul] using h]; decide, by omega, by omega, by omega, by omega⟩
theorem pAdd_ok : pOpOk pAdd := fun c h => by
  have : c = 43 ∨ c = 45 := by simpa [pAdd] using h
  rcases this with rfl | rfl
  · exact ⟨43, by decide, by omega, by omega, by omega, by omega⟩
  · exact ⟨45, by decide, by omega, by omega, by omega, by omega⟩
theorem pOp_ne {isOp : Int32 → Bool} (h : pOpOk isOp) {c : Int32} (hc : isOp c = true) : ¬ c = 0 := by
  obtain ⟨k, rfl, h1, h2, -⟩ := h c hc
  exact nI_ne0 h2 (by omega)
theorem pLoop_W {L : List Int32} (hL : tOk L) {isOp : Int32 → Bool} {G : Nat → pR} {d : Nat} (hO : pOpOk isOp) (hG : ∀ p, p ≤ L.length → pW L d p (G p)) : ∀ (q : Nat) (V : pV) (C : List Int32) (p0 p : Nat), p0 < p → p ≤ L.length → C.length ≤ p - p0 → zSays C V (d + 1) → pW L (d + 1) p0 (pLoop L isOp G q V C p)
  | 0, V, C, p0, p, h0, hp, hC, hV => ⟨by omega, hp⟩
  | q + 1, V, C, p0, p, h0, hp, hC, hV => by
    rw [pLoop]
    by_cases e : isOp (tT L p) = true
    · rw [if_pos e]
      have hn := tN_gt (pOp_ne hO e)
      have hl := tN_le hL hp
      match hR : G (tN L p), hG (tN L p) hl with
      | (none, p2), w => exact ⟨by have := w.1; omega, w.2⟩
      | (some (V2, C2), p2), w =>
        obtain ⟨w1, w2, w3, w4⟩ := w
        obtain ⟨k, ek, k1, k2, k3, k4⟩ := hO _ e
        rw [ek]
        refine pLoop_W hL hO hG q _ _ p0 p2 (by omega) w2 (by simp; omega) (zSays_bin hV w4 k1 k3 k4)
    · rw [if_neg e]
      exact ⟨h0, hp, hC, hV⟩
theorem pBin_W {L : List Int32} (hL : tOk L) {isOp : Int32 → Bool} {G : Nat → pR} {d p : Nat} (hO : pOpOk isOp) (hG : ∀ p, p ≤ L.length → pW L d p (G p)) (hp : p ≤ L.length) : pW L (d + 1) p (pBin L isOp G p) := by
  unfold pBin
  match hR : G p, hG p hp with
  | (none, p2), w => exact w
  | (some (V, C), p2), w =>
    obtain ⟨w1, w2, w3, w4⟩ := w
    exact pLoop_W hL hO hG 161 V C p p2 w1 w2 w3 (zSays_mono w4 (by omega))
theorem tSl_get {L : List Int32} {s e i : Nat} (hi : i < e - s) (he : e ≤ L.length) : (tSl L s e).getD i 0 = tB L (s + i) := by
  unfold tSl tB
  rw [if_pos (by omega)]
  simp [List.getD, List.getElem?_take, hi, List.getElem?_drop]
theorem tSl_len {L : List Int32} {s e : Nat} (he : e ≤ L.length) : (tSl L s e).length = e - s := by
  unfold tSl
  simp
  omega
theorem tDg_in {b : Int32} (h : tDg b = true) : 48 ≤ b.toInt ∧ b.toInt ≤ 57 := by
  unfold tDg at h
  simp [Int32.le_iff_toInt_le] at h
  exact h
theorem tW_in : ∀ (l : List Int32) (v : Nat), (∀ b ∈ l, tDg b = true) → v < 10 ^ (4 - l.length) → l.length ≤ 4 → ∃ w, w < 10000 ∧ tW l (nI v) = nI w
  | [], v, _, hv, _ => ⟨v, by simpa using hv, rfl⟩
  | b :: l, v, h, hv, hl => by
    have hb := tDg_in (h b List.mem_cons_self)
    obtain ⟨k, hk, rfl⟩ := z_ofI (x := b) (N := 58) (by omega)
    rw [nI_toInt (by omega)] at hb
    simp only [List.length_cons] at hv hl
    have e1 : nI v * 10 + nI k - 48 = nI (v * 10 + (k - 48)) := by
      rw [show (10 : Int32) = nI 10 by decide, pk_mul, nI_add, show (48 : Int32) = nI 48 by decide, pk_sub (by omega)]
      congr 1
      omega
    rw [tW, e1]
    refine tW_in l _ (fun b hb => h b (List.mem_cons_of_mem _ hb)) ?_ (by omega)
    have : 10 ^ (4 - l.length) = 10 * 10 ^ (4 - (l.length + 1)) := by
      rw [show 4 - l.length = (4 - (l.length + 1)) + 1 by omega, Nat.pow_succ, Nat.mul_comm]
    rw [this]
    omega
theorem tWord_in (l : List Int32) : tWord l = 1 ∨ ∃ k, k < 12 ∧ l = z_byt.getD (k + 1) [] ∧ tWord l = nI (256 + k) := by
  unfold tWord
  by_cases h1 : l = z_byt.getD 1 []
  · rw [if_pos h1]; exact Or.inr ⟨0, by omega, h1, by decide⟩
  by_cases h2 : l = z_byt.getD 2 []
  · rw [if_neg h1, if_pos h2]; exact Or.inr ⟨1, by omega, h2, by decide⟩
  by_cases h3 : l = z_byt.getD 3 []
  · rw [if_neg h1, if_neg h2, if_pos h3]; exact Or.inr ⟨2, by omega, h3, by decide⟩
  by_cases h4 : l = z_byt.getD 4 []
  · rw [if_neg h1, if_neg h2, if_neg h3, if_pos h4]; exact Or.inr ⟨3, by omega, h4, by decide⟩
  by_cases h5 : l = z_byt.getD 5 []
  · rw [if_neg h1, if_neg h2, if_neg h3, if_neg h4, if_pos h5]; exact Or.inr ⟨4, by omega, h5, by decide⟩
  by_cases h6 : l = z_byt.getD 6 []
  · rw [if_neg h1, if_neg h2, if_neg h3, if_neg h4, if_neg h5, if_pos h6]; exact Or.inr ⟨5, by omega, h6, by decide⟩
  by_cases h7 : l = z_byt.getD 7 []
  · rw [if_neg h1, if_neg h2, if_neg h3, if_neg h4, if_neg h5, if_neg h6, if_pos h7]; exact Or.inr ⟨6, by omega, h7, by decide⟩
  by_cases h8 : l = z_byt.getD 8 []
  · rw [if_neg h1, if_neg h2, if_neg h3, if_neg h4, if_neg h5, if_neg h6, if_neg h7, if_pos h8]; exact Or.inr ⟨7, by omega, h8, by decide⟩
  by_cases h9 : l = z_byt.getD 9 []
  · rw [if_neg h1, if_neg h2, if_neg h3, if_neg h4, if_neg h5, if_neg h6, if_neg h7, if_neg h8, if_pos h9]; exact Or.inr ⟨8, by omega, h9, by decide⟩
  by_cases h10 : l = z_byt.getD 10 []
  · rw [if_neg h1, if_neg h2, if_neg h3, if_neg h4, if_neg h5, if_neg h6, if_neg h7, if_neg h8, if_neg h9, if_pos h10]; exact Or.inr ⟨9, by omega, h10, by decide⟩
  by_cases h11 : l = z_byt.getD 11 []
  · rw [if_neg h1, if_neg h2, if_neg h3, if_neg h4, if_neg h5, if_neg h6, if_neg h7, if_neg h8, if_neg h9, if_neg h10, if_pos h11]; exact Or.inr ⟨10, by omega, h11, by decide⟩
  by_cases h12 : l = z_byt.getD 12 []
  · rw [if_neg h1, if_neg h2, if_neg h3, if_neg h4, if_neg h5, if_neg h6, if_neg h7, if_neg h8, if_neg h9, if_neg h10, if_neg h11, if_pos h12]; exact Or.inr ⟨11, by omega, h12, by decide⟩
  rw [if_neg h1, if_neg h2, if_neg h3, if_neg h4, if_neg h5, if_neg h6, if_neg h7, if_neg h8, if_neg h9, if_neg h10, if_neg h11, if_neg h12]
  exact Or.inl rfl
theorem tT_2 {L : List Int32} {p : Nat} (h : tT L p = 2) : tDg (tB L (tS L p)) = true ∧ tN L p - tS L p ≤ 4 := by
  unfold tT at h
  split at h
  · exact absurd h (by decide)
  · split at h
    · rename_i e
      split at h
      · rename_i e2; exact ⟨e, e2⟩
      · exact absurd h (by decide)
    · split at h
      · rcases tWord_in (tSl L (tS L p) (tN L p)) with e | ⟨k, hk, -, e⟩
        · rw [e] at h; exact absurd h (by decide)
        · rw [e, show (2 : Int32) = nI 2 by decide, z_eq_nI (by omega) (by omega)] at h; omega
      · split at h
        · rename_i e
          rw [h] at e
          exact absurd e (by decide)
        · exact absurd h (by decide)
theorem tV_in {L : List Int32} (hL : tOk L) {p : Nat} (hp : p ≤ L.length) (h : tT L p = 2) : ∃ w, w < 10000 ∧ tV L p = nI w := by
  obtain ⟨h1, h2⟩ := tT_2 h
  have hn := tN_le hL hp
  have eN : tN L p = tRun L tDg (L.length + 1) (tS L p) := by
    unfold tN
    rw [if_neg (fun e => by rw [e] at h1; exact absurd h1 (by decide)), if_pos h1]
  unfold tV
  have hl := tSl_len (L := L) (s := tS L p) (e := tN L p) hn
  refine tW_in _ 0 (fun b hb => ?_) (Nat.pos_of_ne_zero (by simp)) (by omega)
  obtain ⟨i, hi, e⟩ := List.getElem_of_mem hb
  have hi' : i < tN L p - tS L p := by rw [← hl]; exact hi
  have := tSl_get (L := L) (s := tS L p) (e := tN L p) hi' hn
  rw [List.getD_eq_getElem?_getD, List.getElem?_eq_getElem hi] at this
  have e2 : b = tB L (tS L p + i) := by rw [← e]; exact this
  rw [e2]
  refine tRun_in (L.length + 1) (tS L p) _ (by omega) ?_
  rw [← eN]
  omega
theorem zrun_push {e : Nat → Int32} {x : Int32} {xs st : List Int32} (h : ¬ (20000 : Int32) ≤ x) (hs : st.length < 64) : zrun e (x :: xs) st = zrun e xs ((if (10000 : Int32) ≤ x then e (z_x (x - 10000)) else x) :: st) := by
  rw [zrun.eq_def]
  simp only
  rw [if_neg h, if_pos hs]
theorem zSays_num {w d : Nat} (hw : w < 10000) : zSays [nI w] (fun _ => nI w) (d + 1) := by
  intro e st rest hs
  rw [List.singleton_append, zrun_push (by rw [show (20000 : Int32) = nI 20000 by decide]; exact nI_ge (by omega) (by omega)) (by omega), if_neg (by rw [show (10000 : Int32) = nI 10000 by decide]; exact nI_ge (by omega) (by omega))]
theorem zSays_name {k d : Nat} (hk : 256 ≤ k) (hk2 : k < 262) : zSays [10000 + nI k - 256] (fun e => e (z_x (nI k - 256))) (d + 1) := by
  intro e st rest hs
  have e1 : (10000 : Int32) + nI k - 256 = nI (10000 + k - 256) := by
    rw [show (10000 : Int32) = nI 10000 by decide, nI_add, show (256 : Int32) = nI 256 by decide, pk_sub (by omega)]
  have e2 : nI (10000 + k - 256) - 10000 = nI k - 256 := by
    rw [show (10000 : Int32) = nI 10000 by decide, pk_sub (by omega), show (256 : Int32) = nI 256 by decide, pk_sub (by omega)]
    exact congrArg nI (by omega)
  rw [e1, List.singleton_append, zrun_push (by rw [show (20000 : Int32) = nI 20000 by decide]; exact nI_ge (by omega) (by omega)) (by omega), if_pos (by rw [show (10000 : Int32) = nI 10000 by decide]; exact nI_le (by omega) (by omega)), e2]
theorem pG_W {L : List Int32} (hL : tOk L) : ∀ (f t o p : Nat), t ≤ 5 → o ≤ 5 → p ≤ L.length → pW L (5 * (5 - o) + (5 - t) + 1) p (pG L f t o p)
  | 0, t, o, p, ht, ho, hp => ⟨Nat.le_refl _, hp⟩
  | f + 1, t, o, p, ht, ho, hp => by
    rw [pG]
    rcases (show t = 0 ∨ t = 1 ∨ t = 2 ∨ t = 3 ∨ t = 4 ∨ t = 5 by omega) with rfl | rfl | rfl | rfl | rfl | rfl
    · exact pBin_W hL pOr_ok (fun p hp => pG_W hL f 1 o p (by omega) ho hp) hp
    · exact pBin_W hL pAnd_ok (fun p hp => pG_W hL f 2 o p (by omega) ho hp) hp
    · show pW L _ p (pNot L (pG L f 2 (o + 1)) (pG L f 3 o) o p)
      unfold pNot
      by_cases e : tT L p = 267
      · rw [if_pos e]
        by_cases ho5 : o < 5
        · rw [if_pos ho5]
          have hn := tN_gt (L := L) (p := p) (by rw [e]; decide)
          have hl := tN_le hL hp
          match hR : pG L f 2 (o + 1) (tN L p), pG_W hL f 2 (o + 1) (tN L p) (by omega) (by omega) hl with
          | (none, p2), w => exact ⟨by have := w.1; omega, w.2⟩
          | (some (V, C), p2), w =>
            obtain ⟨w1, w2, w3, w4⟩ := w
            refine ⟨by omega, w2, by simp; omega, ?_⟩
            exact zSays_un (c := 267) (zSays_mono w4 (by omega)) (Or.inr rfl)
        · rw [if_neg ho5]
          exact ⟨Nat.le_refl _, hp⟩
      · rw [if_neg e]
        match hR : pG L f 3 o p, pG_W hL f 3 o p (by omega) ho hp with
        | (none, p2), w => exact w
        | (some (V, C), p2), w =>
          obtain ⟨w1, w2, w3, w4⟩ := w
          show pW L _ p (if tT L p2 = 60 ∨ tT L p2 = 61 then _ else _)
          by_cases e2 : tT L p2 = 60 ∨ tT L p2 = 61
          · rw [if_pos e2]
            have hk : ∃ k, tT L p2 = nI k ∧ k < 1000 ∧ 0 < k ∧ ¬ k = 3 ∧ ¬ k = 267 := by
              rcases e2 with e2 | e2
              · exact ⟨60, by rw [e2]; decide, by omega, by omega, by omega, by omega⟩
              · exact ⟨61, by rw [e2]; decide, by omega, by omega, by omega, by omega⟩
            obtain ⟨k, ek, k1, k2, k3, k4⟩ := hk
            have hn := tN_gt (L := L) (p := p2) (by rw [ek]; exact nI_ne0 k2 (by omega))
            have hl := tN_le hL w2
            match hR2 : pG L f 3 o (tN L p2), pG_W hL f 3 o (tN L p2) (by omega) ho hl with
            | (none, p3), v => exact ⟨by have := v.1; omega, v.2⟩
            | (some (V2, C2), p3), v =>
              obtain ⟨v1, v2, v3, v4⟩ := v
              refine ⟨by omega, v2, by simp; omega, ?_⟩
              rw [ek]
              exact zSays_bin (zSays_mono w4 (by omega)) (zSays_mono v4 (by omega)) k1 k3 k4
          · rw [if_neg e2]
            exact ⟨w1, w2, w3, zSays_mono w4 (by omega)⟩
    · exact pBin_W hL pAdd_ok (fun p hp => pG_W hL f 4 o p (by omega) ho hp) hp
    · exact pBin_W hL pMul_ok (fun p hp => pG_W hL f 5 o p (by omega) ho hp) hp
    · show pW L _ p (pOne L (pG L f 5 (o + 1)) (pG L f 0 (o + 1)) o p)
      unfold pOne
      have hl := tN_le hL hp
      by_cases e2 : tT L p = 2
      · rw [if_pos e2]
        have hn := tN_gt (L := L) (p := p) (by rw [e2]; decide)
        obtain ⟨w, hw, ew⟩ := tV_in hL hp e2
        refine ⟨hn, hl, by simp; omega, ?_⟩
        rw [ew]
        exact zSays_num hw
      rw [if_neg e2]
      by_cases e3 : 256 ≤ tT L p ∧ tT L p < 262
      · rw [if_pos e3]
        obtain ⟨k, hk, ek⟩ := z_ofI (x := tT L p) (N := 262) (by
          have h1 := e3.1
          have h2 := e3.2
          rw [Int32.le_iff_toInt_le, show (256 : Int32).toInt = 256 from rfl] at h1
          rw [Int32.lt_iff_toInt_lt, show (262 : Int32).toInt = 262 from rfl] at h2
          omega)
        have hk2 : 256 ≤ k := by
          have h1 := e3.1
          rw [ek, Int32.le_iff_toInt_le, nI_toInt (by omega), show (256 : Int32).toInt = 256 from rfl] at h1
          omega
        have hn := tN_gt (L := L) (p := p) (by rw [ek]; exact nI_ne0 (by omega) (by omega))
        refine ⟨hn, hl, by simp; omega, ?_⟩
        rw [ek]
        exact zSays_name hk2 hk
      rw [if_neg e3]
      by_cases ho5 : 5 ≤ o
      · rw [if_pos ho5]
        exact ⟨Nat.le_refl _, hp⟩
      rw [if_neg ho5]
      by_cases e4 : tT L p = 45
      · rw [if_pos e4]
        have hn := tN_gt (L := L) (p := p) (by rw [e4]; decide)
        match hR : pG L f 5 (o + 1) (tN L p), pG_W hL f 5 (o + 1) (tN L p) (by omega) (by omega) hl with
        | (none, p2), w => exact ⟨by have := w.1; omega, w.2⟩
        | (some (V, C), p2), w =>
          obtain ⟨w1, w2, w3, w4⟩ := w
          refine ⟨by omega, w2, by simp; omega, ?_⟩
          exact zSays_un (c := 3) (zSays_mono w4 (by omega)) (Or.inl rfl)
      rw [if_neg e4]
      by_cases e5 : tT L p = 40
      · rw [if_pos e5]
        have hn := tN_gt (L := L) (p := p) (by rw [e5]; decide)
        match hR : pG L f 0 (o + 1) (tN L p), pG_W hL f 0 (o + 1) (tN L p) (by omega) (by omega) hl with
        | (none, p2), w => exact ⟨by have := w.1; omega, w.2⟩
        | (some (V, C), p2), w =>
          obtain ⟨w1, w2, w3, w4⟩ := w
          show pW L _ p (if tT L p2 = 41 then _ else _)
          by_cases e6 : tT L p2 = 41
          · rw [if_pos e6]
            have hn2 := tN_gt (L := L) (p := p2) (by rw [e6]; decide)
            exact ⟨by omega, tN_le hL w2, by omega, zSays_mono w4 (by omega)⟩
          · rw [if_neg e6]
            exact ⟨by omega, w2⟩
      · rw [if_neg e5]
        exact ⟨Nat.le_refl _, hp⟩
