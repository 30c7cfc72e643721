/-! TOKENS, as a pure thing of a row of bytes -/
section ZTOK
variable (L : List Int32)
/-- the byte at a place, -1 behind the end -/
def tB (i : Nat) : Int32 := if i < L.length then L.getD i 0 else -1
def tBl (b : Int32) : Bool := b == 32 || b == 10
def tDg (b : Int32) : Bool := decide (48 ≤ b) && decide (b ≤ 57)
def tSm (b : Int32) : Bool := decide (97 ≤ b) && decide (b ≤ 122)
def tSg (b : Int32) : Bool := b == 40 || b == 41 || b == 59 || b == 43 || b == 45 || b == 42 || b == 60 || b == 61
/-- the first place from i on whose byte isn't such -/
def tRun (P : Int32 → Bool) : Nat → Nat → Nat
  | 0, i => i
  | m + 1, i => if P (tB L i) = true then tRun P m (i + 1) else i
/-- where the TOKEN begins -/
def tS (p : Nat) : Nat := tRun L tBl (L.length + 1) p
def tWord (l : List Int32) : Int32 :=
  if l = z_byt.getD 1 [] then 256 else if l = z_byt.getD 2 [] then 257 else if l = z_byt.getD 3 [] then 258 else if l = z_byt.getD 4 [] then 259
  else if l = z_byt.getD 5 [] then 260 else if l = z_byt.getD 6 [] then 261 else if l = z_byt.getD 7 [] then 262 else if l = z_byt.getD 8 [] then 263
  else if l = z_byt.getD 9 [] then 264 else if l = z_byt.getD 10 [] then 265 else if l = z_byt.getD 11 [] then 266 else if l = z_byt.getD 12 [] then 267 else 1
def tSl (s e : Nat) : List Int32 := (L.drop s).take (e - s)
/-- where it ends -/
def tN (p : Nat) : Nat := if tB L (tS L p) = -1 then tS L p else if tDg (tB L (tS L p)) = true then tRun L tDg (L.length + 1) (tS L p) else if tSm (tB L (tS L p)) = true then tRun L tSm (L.length + 1) (tS L p) else tS L p + 1
def tT (p : Nat) : Int32 := if tB L (tS L p) = -1 then 0 else if tDg (tB L (tS L p)) = true then (if tN L p - tS L p ≤ 4 then 2 else 1) else if tSm (tB L (tS L p)) = true then tWord (tSl L (tS L p) (tN L p)) else if tSg (tB L (tS L p)) = true then tB L (tS L p) else 1
/-- what digits are worth -/
def tW : List Int32 → Int32 → Int32
  | [], v => v
  | b :: l, v => tW l (v * 10 + b - 48)
def tV (p : Nat) : Int32 := tW (tSl L (tS L p) (tN L p)) 0
end ZTOK
/-- bytes are bytes, no more than 160 -/
def tOk (L : List Int32) : Prop := L.length ≤ 160 ∧ ∀ x ∈ L, 0 ≤ x.toInt ∧ x.toInt ≤ 255
theorem tB_in {L : List Int32} {i : Nat} (h : tOk L) (hi : i < L.length) : 0 ≤ (tB L i).toInt ∧ (tB L i).toInt ≤ 255 := by
  unfold tB
  rw [if_pos hi, List.getD_eq_getElem?_getD, List.getElem?_eq_getElem hi]
  exact h.2 _ (List.getElem_mem hi)
theorem tB_out {L : List Int32} {i : Nat} (hi : L.length ≤ i) : tB L i = -1 := if_neg (by omega)
theorem tB_neg {L : List Int32} {i : Nat} (h : tOk L) : tB L i = -1 ↔ L.length ≤ i := by
  constructor
  · intro e
    apply Classical.byContradiction
    intro q
    have := tB_in h (show i < L.length by omega)
    rw [e] at this
    exact absurd this.1 (by decide)
  · exact tB_out
theorem tRun_ge {L : List Int32} {P : Int32 → Bool} : ∀ (m i : Nat), i ≤ tRun L P m i
  | 0, i => Nat.le_refl _
  | m + 1, i => by
    rw [tRun]
    split
    · exact Nat.le_trans (by omega) (tRun_ge m (i + 1))
    · exact Nat.le_refl _
theorem tRun_in {L : List Int32} {P : Int32 → Bool} : ∀ (m i j : Nat), i ≤ j → j < tRun L P m i → P (tB L j) = true
  | 0, i, j, h1, h2 => by rw [tRun] at h2; omega
  | m + 1, i, j, h1, h2 => by
    rw [tRun] at h2
    split at h2
    · rename_i e
      by_cases q : j = i
      · rw [q]; exact e
      · exact tRun_in m (i + 1) j (by omega) h2
    · omega
theorem tRun_le {L : List Int32} {P : Int32 → Bool} (hP : P (-1) = false) (m i : Nat) (hi : i ≤ L.length) : tRun L P m i ≤ L.length := by
  apply Classical.byContradiction
  intro q
  have := tRun_in (L := L) (P := P) m i L.length hi (by omega)
  rw [tB_out (Nat.le_refl _), hP] at this
  exact absurd this (by decide)
theorem tRun_end {L : List Int32} {P : Int32 → Bool} (hP : P (-1) = false) : ∀ (m i : Nat), L.length + 1 ≤ m + i → P (tB L (tRun L P m i)) = false
  | 0, i, h => by rw [tRun, tB_out (by omega)]; exact hP
  | m + 1, i, h => by
    rw [tRun]
    split
    · exact tRun_end hP m (i + 1) (by omega)
    · rename_i e; simpa using e
theorem tRun_eq {L : List Int32} {P : Int32 → Bool} (hP : P (-1) = false) {i j m : Nat} (hm : L.length + 1 ≤ m + i) (hij : i ≤ j) (h1 : ∀ k, i ≤ k → k < j → P (tB L k) = true) (h2 : P (tB L j) = false) : tRun L P m i = j := by
  rcases Nat.lt_trichotomy (tRun L P m i) j with q | q | q
  · have := h1 _ (tRun_ge m i) q
    rw [tRun_end hP m i hm] at this
    exact absurd this (by decide)
  · exact q
  · have := tRun_in m i j hij q
    rw [h2] at this
    exact absurd this (by decide)
theorem tBl_1 : tBl (-1) = false := by decide
theorem tDg_1 : tDg (-1) = false := by decide
theorem tSm_1 : tSm (-1) = false := by decide
section ZTOK2
variable {L : List Int32}
theorem tS_ge {p : Nat} : p ≤ tS L p := tRun_ge _ _
theorem tS_le {p : Nat} (h : p ≤ L.length) : tS L p ≤ L.length := tRun_le tBl_1 _ _ h
theorem tN_le {p : Nat} (hL : tOk L) (h : p ≤ L.length) : tN L p ≤ L.length := by
  have h1 := tS_le (L := L) h
  unfold tN
  split
  · exact h1
  · rename_i e
    have h2 : tS L p < L.length := by
      apply Classical.byContradiction
      intro q
      exact e (tB_out (by omega))
    split
    · exact tRun_le tDg_1 _ _ h1
    · split
      · exact tRun_le tSm_1 _ _ h1
      · omega
theorem tN_ge {p : Nat} : tS L p ≤ tN L p := by
  unfold tN
  split
  · exact Nat.le_refl _
  · split
    · exact tRun_ge _ _
    · split
      · exact tRun_ge _ _
      · omega
theorem tRun_gt {P : Int32 → Bool} {m i : Nat} (h : P (tB L i) = true) : i < tRun L P (m + 1) i := by
  rw [tRun, if_pos h]
  exact Nat.lt_of_lt_of_le (Nat.lt_succ_self i) (tRun_ge m (i + 1))
theorem tN_gt {p : Nat} (h : ¬ tT L p = 0) : p < tN L p := by
  have h1 := tS_ge (L := L) (p := p)
  have h0 : ¬ tB L (tS L p) = -1 := fun e => h (by unfold tT; rw [if_pos e])
  unfold tN
  rw [if_neg h0]
  split
  · rename_i e; exact Nat.lt_of_le_of_lt h1 (tRun_gt e)
  · split
    · rename_i e; exact Nat.lt_of_le_of_lt h1 (tRun_gt e)
    · omega
theorem tN_ge' {p : Nat} : p ≤ tN L p := Nat.le_trans tS_ge tN_ge
theorem tT_lt {p : Nat} (h : ¬ tT L p = 0) (hp : p ≤ L.length) : p < L.length := by
  have h0 : ¬ tB L (tS L p) = -1 := fun e => h (by unfold tT; rw [if_pos e])
  have h1 := tS_ge (L := L) (p := p)
  apply Classical.byContradiction
  intro q
  exact h0 (tB_out (by omega))
end ZTOK2
