/-! the class's reader follows the pure parser -/
def cF (w : Nat) (σ σ' : z_Mem) : Prop := (∀ k, k ≠ 1 → k ≠ 2 → k ≠ 5 → σ'.1 k = σ.1 k) ∧ (∀ j, j ≠ 4 → σ'.1 1 j = σ.1 1 j) ∧ (∀ j, j < w → σ'.1 2 j = σ.1 2 j) ∧ ∀ j, j < 3 → σ'.1 5 j = σ.1 5 j
theorem cF_rf {w : Nat} {σ : z_Mem} : cF w σ σ := ⟨fun _ _ _ _ => rfl, fun _ _ => rfl, fun _ _ => rfl, fun _ _ => rfl⟩
theorem cF_tr {w w' : Nat} {σ σ' σ'' : z_Mem} (h : cF w σ σ') (h' : cF w' σ' σ'') (hw : w ≤ w') : cF w σ σ'' := ⟨fun k a b c => (h'.1 k a b c).trans (h.1 k a b c), fun j a => (h'.2.1 j a).trans (h.2.1 j a), fun j a => (h'.2.2.1 j (by omega)).trans (h.2.2.1 j a), fun j a => (h'.2.2.2 j a).trans (h.2.2.2 j a)⟩
theorem cF_A {w : Nat} {σ σ' : z_Mem} (h : cA σ σ') : cF w σ σ' := ⟨fun k _ _ c => h.1 k c, fun j _ => by rw [h.1 1 (by omega)], fun j _ => by rw [h.1 2 (by omega)], fun j a => h.2 j (by omega)⟩
theorem cTp_F {w : Nat} {σ σ' : z_Mem} {L : List Int32} (h : cTp σ L) (hk : cF w σ σ') : cTp σ' L := by
  unfold cTp
  rw [hk.2.2.2 2 (by omega), hk.1 6 (by omega) (by omega) (by omega)]
  exact h
def cRes (L : List Int32) (w : Nat) (σ : z_Mem) (r : pR) (b : Int32) (σ' : z_Mem) : Prop := cF w σ σ' ∧ match r with
  | (none, p') => b = 0 ∧ σ'.1 5 4 = nI (tS L p') ∧ ∃ w', w ≤ w' ∧ w' ≤ 960 ∧ σ'.1 1 4 = nI w'
  | (some (_, C), p') => b = 1 ∧ cR σ' L p' ∧ σ'.1 1 4 = nI (w + C.length) ∧ ∀ j, j < C.length → σ'.1 2 (w + j) = C.getD j 0
def cSp (L : List Int32) (Gc : z_Mem → Option (Int32 × z_Mem)) (Gp : Nat → pR) : Prop := ∀ (p w : Nat) (σ : z_Mem), p ≤ L.length → cTp σ L → cR σ L p → σ.1 1 4 = nI w → w + (L.length - p) ≤ 960 → z_R (Gc σ) (fun b σ' => cRes L w σ (Gp p) b σ')
theorem c_put {σ : z_Mem} {w : Nat} {c : Int32} (h : σ.1 1 4 = nI w) (hw : w < 960) : fX4_put c σ = some ((), z_pt (z_pt σ 2 w c) 1 4 (nI (w + 1))) := by
  unfold fX4_put
  rw [h, if_neg (nI_pos (by omega)), if_neg (z_nle 960 960 (by decide) hw (by decide)), z_gdT (z_inN hw (by decide)), z_stE, z_stE, z_xN (by omega), z_pt_3 (by decide), h, nI_1]
theorem cF_put {σ : z_Mem} {w : Nat} {c : Int32} : cF w σ (z_pt (z_pt σ 2 w c) 1 4 (nI (w + 1))) := by
  refine ⟨fun k a b _ => ?_, fun j a => ?_, fun j a => ?_, fun j _ => ?_⟩
  · rw [z_pt_r a, z_pt_r b]
  · rw [z_pt_2 a, z_pt_3 (by decide)]
  · rw [z_pt_3 (by decide), z_pt_2 (by omega)]
  · rw [z_pt_3 (by decide), z_pt_3 (by decide)]
theorem c_putAny {σ : z_Mem} {w : Nat} {c : Int32} (h : σ.1 1 4 = nI w) (hw : w ≤ 960) : ∃ σ' w', fX4_put c σ = some ((), σ') ∧ cF w σ σ' ∧ σ'.1 5 = σ.1 5 ∧ σ'.1 1 4 = nI w' ∧ w ≤ w' ∧ w' ≤ 960 := by
  by_cases e : w < 960
  · refine ⟨_, w + 1, c_put h e, cF_put, ?_, z_pt_1, by omega, by omega⟩
    rw [z_pt_r (by decide), z_pt_r (by decide)]
  · refine ⟨σ, w, ?_, cF_rf, rfl, h, Nat.le_refl _, hw⟩
    unfold fX4_put
    rw [h, if_neg (nI_pos (by omega)), if_pos (z_lle 960 960 (by decide) (by omega) (by omega))]
section ZRD
variable {L : List Int32}
theorem z_gdI {l : List Int32} {x : Int32} {j : Nat} (h : j < l.length) : (l ++ [x]).getD j 0 = l.getD j 0 := by
  simp [List.getD, List.getElem?_append_left h]
theorem z_gdA {l m : List Int32} {j : Nat} : (l ++ m).getD j 0 = if j < l.length then l.getD j 0 else m.getD (j - l.length) 0 := by
  by_cases h : j < l.length
  · rw [if_pos h]
    simp [List.getD, List.getElem?_append_left h]
  · rw [if_neg h]
    simp [List.getD, List.getElem?_append_right (show l.length ≤ j by omega)]
/-- the loops over one kind of operators -/
def cLp (isOp : Int32 → Bool) (Gc : z_Mem → Option (Int32 × z_Mem)) (F : Nat → Int32 → Int32 → z_Mem → Option (Int32 × z_Mem)) : Prop := ∀ q l2 l3 σ, F (q + 1) l2 l3 σ = if (160 : Int32) ≤ l3 then (z_gd (z_bool l2) (some (l2, σ))) else (if l2 = 0 then (z_gd (z_bool l2) (some (l2, σ))) else (if isOp (σ.1 5 5) = true then (z_bd (fX2_advance σ) (fun _ s2 => z_bd (Gc s2) (fun r3 s3 => z_bd (fX4_put ((20000 : Int32) + σ.1 5 5) s3) (fun _ s4 => F q r3 (l3 + 1) s4)))) else (z_gd (z_bool l2) (some (l2, σ)))))
theorem cLp_0 {isOp : Int32 → Bool} {Gc : z_Mem → Option (Int32 × z_Mem)} {F : Nat → Int32 → Int32 → z_Mem → Option (Int32 × z_Mem)} (hF : cLp isOp Gc F) {q : Nat} {l3 : Int32} {σ : z_Mem} : F (q + 1) 0 l3 σ = some (0, σ) := by
  rw [hF, if_pos (show (0 : Int32) = 0 from rfl), z_gdT (Or.inl rfl), ite_self]
theorem c_binloop (hL : tOk L) {isOp : Int32 → Bool} {Gc : z_Mem → Option (Int32 × z_Mem)} {Gp : Nat → pR} {F : Nat → Int32 → Int32 → z_Mem → Option (Int32 × z_Mem)} {d : Nat} (hF : cLp isOp Gc F) (hG : cSp L Gc Gp) (hO : pOpOk isOp) (hW : ∀ p, p ≤ L.length → pW L d p (Gp p)) (w0 : Nat) : ∀ (qp q k : Nat) (V : pV) (C : List Int32) (p : Nat) (σ : z_Mem), p ≤ L.length → cTp σ L → cR σ L p → σ.1 1 4 = nI (w0 + C.length) → (∀ j, j < C.length → σ.1 2 (w0 + j) = C.getD j 0) → w0 + C.length + (L.length - p) ≤ 960 → k + qp = 161 → k ≤ p → qp < q → z_R (F q 1 (nI k) σ) (fun b σ' => cRes L w0 σ (pLoop L isOp Gp qp V C p) b σ')
  | qp, 0, k, V, C, p, σ, _, _, _, _, _, _, _, _, h => absurd h (Nat.not_lt_zero _)
  | 0, q + 1, k, V, C, p, σ, hp, _, _, _, _, _, hk, hkp, _ => by
    have := hL.1
    omega
  | qp + 1, q + 1, k, V, C, p, σ, hp, ht, hr, h4, hC, hroom, hk, hkp, hq => by
    have hl := hL.1
    rw [hF, pLoop]
    by_cases e : isOp (tT L p) = true
    · have hne := pOp_ne hO e
      have hlt := tT_lt hne hp
      have hn := tN_gt hne
      have hnl := tN_le hL hp
      rw [if_neg (z_nle 160 160 (by decide) (by omega) (by decide)), if_neg z_10, hr.2.2.1, if_pos e, if_pos e]
      obtain ⟨u, s2, f2, a2, r2⟩ := c_advance hL ht hr.1 hnl
      have t2 := cTp_A ht a2
      have h42 : s2.1 1 4 = nI (w0 + C.length) := by rw [a2.1 1 (by omega)]; exact h4
      rw [z_bdE f2]
      obtain ⟨b3, s3, f3, R3⟩ := hG (tN L p) (w0 + C.length) s2 hnl t2 r2 h42 (by omega)
      have W := hW (tN L p) hnl
      rw [z_bdE f3]
      match hR : Gp (tN L p), R3, W with
      | (none, p2), ⟨c3, b0, f5, w', w1, w2, w3⟩, W =>
        obtain ⟨s4, w4, f4, c4, e5, g1, g2, g3⟩ := c_putAny (c := 20000 + tT L p) w3 w2
        rw [z_bdE f4, b0]
        match q, hq with
        | q + 1, hq =>
          rw [cLp_0 hF]
          refine z_R_some ⟨cF_tr (cF_A a2) (cF_tr (cF_tr c3 c4 (by omega)) cF_rf (Nat.le_refl _)) (by omega), rfl, ?_, w4, by omega, g3, g1⟩
          rw [e5]; exact f5
      | (some (V2, C2), p2), ⟨c3, b1, r3, g4, gC⟩, ⟨v1, v2, v3, v4⟩ =>
        have hlen : w0 + C.length + C2.length < 960 := by omega
        have f4 := c_put (c := 20000 + tT L p) g4 hlen
        rw [z_bdE f4, b1, nI_1]
        have c4 : cF (w0 + C.length + C2.length) s3 (z_pt (z_pt s3 2 (w0 + C.length + C2.length) (20000 + tT L p)) 1 4 (nI (w0 + C.length + C2.length + 1))) := cF_put
        have F4 : cF w0 σ (z_pt (z_pt s3 2 (w0 + C.length + C2.length) (20000 + tT L p)) 1 4 (nI (w0 + C.length + C2.length + 1))) := cF_tr (cF_A a2) (cF_tr c3 c4 (by omega)) (by omega)
        have hlen3 : (C ++ C2 ++ [20000 + tT L p]).length = C.length + C2.length + 1 := by simp; omega
        refine z_R_mono (c_binloop hL hF hG hO hW w0 qp q (k + 1) (fun e => zop (tT L p) (V e) (V2 e)) (C ++ C2 ++ [20000 + tT L p]) p2 _ v2 (cTp_F ht F4) ?_ ?_ (fun j hj => ?_) (by rw [hlen3]; omega) (by omega) (by omega) (by omega)) (fun b s' hh => ⟨cF_tr F4 hh.1 (Nat.le_refl _), hh.2⟩)
        · obtain ⟨q1, q2, q3, q4⟩ := r3
          refine ⟨?_, ?_, ?_, fun x => ?_⟩
          · rw [z_pt_3 (by decide), z_pt_3 (by decide)]; exact q1
          · rw [z_pt_3 (by decide), z_pt_3 (by decide)]; exact q2
          · rw [z_pt_3 (by decide), z_pt_3 (by decide)]; exact q3
          · rw [z_pt_3 (by decide), z_pt_3 (by decide)]; exact q4 x
        · rw [z_pt_1, hlen3]; exact congrArg nI (by omega)
        · rw [hlen3] at hj
          rw [z_pt_3 (by decide), z_gdA, z_gdA]
          simp only [List.length_append]
          by_cases j1 : j < C.length
          · rw [if_pos (by omega), if_pos j1, z_pt_2 (by omega), c3.2.2.1 _ (by omega), a2.1 2 (by omega)]
            exact hC j j1
          · by_cases j2 : j < C.length + C2.length
            · rw [if_pos j2, if_neg j1, z_pt_2 (by omega)]
              have := gC (j - C.length) (by omega)
              rw [show w0 + C.length + (j - C.length) = w0 + j by omega] at this
              exact this
            · have ej : j = C.length + C2.length := by omega
              rw [if_neg j2, ej, show w0 + (C.length + C2.length) = w0 + C.length + C2.length by omega, z_pt_1, Nat.sub_self]
              rfl
    · rw [if_neg z_10, hr.2.2.1, if_neg e, if_neg e, z_gdT (Or.inr rfl), ite_self]
      exact z_R_some ⟨cF_rf, rfl, hr, h4, hC⟩
theorem c_bin (hL : tOk L) {isOp : Int32 → Bool} {Gc : z_Mem → Option (Int32 × z_Mem)} {Gp : Nat → pR} {F : Nat → Int32 → Int32 → z_Mem → Option (Int32 × z_Mem)} {d : Nat} (hF : cLp isOp Gc F) (hG : cSp L Gc Gp) (hO : pOpOk isOp) (hW : ∀ p, p ≤ L.length → pW L d p (Gp p)) : cSp L (fun σ => z_bd (Gc σ) (fun r1 s1 => F z_FU r1 0 s1)) (pBin L isOp Gp) := by
  intro p w σ hp ht hr h4 hroom
  show z_R (z_bd (Gc σ) (fun r1 s1 => F z_FU r1 0 s1)) _
  obtain ⟨b1, s1, f1, R1⟩ := hG p w σ hp ht hr h4 hroom
  have W := hW p hp
  rw [z_bdE f1]
  unfold pBin
  match hR : Gp p, R1, W with
  | (none, p2), ⟨c1, b0, f5, w', w1⟩, W =>
    rw [b0, show z_FU = 999 + 1 from rfl, cLp_0 hF]
    exact z_R_some ⟨c1, rfl, f5, w', w1⟩
  | (some (V, C), p2), ⟨c1, b1, r1, g4, gC⟩, ⟨v1, v2, v3, v4⟩ =>
    rw [b1]
    have := c_binloop hL hF hG hO hW w 161 z_FU 0 V C p2 s1 v2 (cTp_F ht c1) r1 g4 gC (by omega) (by omega) (by omega) (by decide)
    rw [nI_0] at this
    exact z_R_mono this (fun b s' hh => ⟨cF_tr c1 hh.1 (Nat.le_refl _), hh.2⟩)
end ZRD
