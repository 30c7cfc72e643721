section ZRE
variable {L : List Int32}
theorem lp_either {G : Nat → Int32 → z_Mem → Option (Int32 × z_Mem)} {o : Int32} : cLp pOr (G 1 o) (fun q l2 l3 σ => fX2_readEither_8 G q o l2 l3 σ) := fun q l2 l3 σ => by
  show fX2_readEither_8 G (q + 1) o l2 l3 σ = _
  rw [fX2_readEither_8]
  by_cases e : σ.1 5 5 = 265
  · rw [if_pos e, if_pos (show pOr (σ.1 5 5) = true by rw [e]; decide), e, show (20000 : Int32) + 265 = 20265 by decide]
  · rw [if_neg e, if_neg (show ¬ pOr (σ.1 5 5) = true by unfold pOr; simpa using e)]
theorem lp_both {G : Nat → Int32 → z_Mem → Option (Int32 × z_Mem)} {o : Int32} : cLp pAnd (G 2 o) (fun q l2 l3 σ => fX2_readBoth_8 G q o l2 l3 σ) := fun q l2 l3 σ => by
  show fX2_readBoth_8 G (q + 1) o l2 l3 σ = _
  rw [fX2_readBoth_8]
  by_cases e : σ.1 5 5 = 266
  · rw [if_pos e, if_pos (show pAnd (σ.1 5 5) = true by rw [e]; decide), e, show (20000 : Int32) + 266 = 20266 by decide]
  · rw [if_neg e, if_neg (show ¬ pAnd (σ.1 5 5) = true by unfold pAnd; simpa using e)]
theorem lp_term {G : Nat → Int32 → z_Mem → Option (Int32 × z_Mem)} {o : Int32} : cLp pMul (G 6 o) (fun q l2 l3 σ => fX2_readTerm_8 G q o l2 l3 σ) := fun q l2 l3 σ => by
  show fX2_readTerm_8 G (q + 1) o l2 l3 σ = _
  rw [fX2_readTerm_8]
  by_cases e : σ.1 5 5 = 42
  · rw [if_pos e, if_pos (show pMul (σ.1 5 5) = true by rw [e]; decide), e, show (20000 : Int32) + 42 = 20042 by decide]
  · rw [if_neg e, if_neg (show ¬ pMul (σ.1 5 5) = true by unfold pMul; simpa using e)]
theorem lp_sum {G : Nat → Int32 → z_Mem → Option (Int32 × z_Mem)} {o : Int32} : cLp pAdd (G 5 o) (fun q l2 l3 σ => fX2_readSum_8 G q o l2 l3 σ) := fun q l2 l3 σ => by
  show fX2_readSum_8 G (q + 1) o l2 l3 σ = _
  rw [fX2_readSum_8]
  by_cases e : σ.1 5 5 = 43
  · rw [if_pos e, if_pos (show pAdd (σ.1 5 5) = true by rw [e]; decide)]
  · rw [if_neg e]
    by_cases e2 : σ.1 5 5 = 45
    · rw [if_pos e2, if_pos (show pAdd (σ.1 5 5) = true by rw [e2]; decide)]
    · rw [if_neg e2, if_neg (show ¬ pAdd (σ.1 5 5) = true by unfold pAdd; simp [e, e2])]
theorem cSp_eq {Gc Gc' : z_Mem → Option (Int32 × z_Mem)} {Gp : Nat → pR} (h : cSp L Gc Gp) (e : ∀ σ, Gc' σ = Gc σ) : cSp L Gc' Gp := fun p w σ a b c d r => by rw [e]; exact h p w σ a b c d r
/-- a code behind what was read: right or not -/
def pAft (V' : pV → pV) (c : Int32) (r : pR) : pR := match r with
  | (none, p2) => (none, p2)
  | (some (V, C), p2) => (some (V' V, C ++ [c]), p2)
theorem c_after {w : Nat} {σ : z_Mem} {r : pR} {b : Int32} {s : z_Mem} {c : Int32} {V' : pV → pV} {d p0 : Nat} (h : cRes L w σ r b s) (hW : pW L d p0 r) (hroom : w + (L.length - p0) < 960) : z_R (z_bd (fX4_put c s) (fun _ s3 => z_gd (z_bool b) (some (b, s3)))) (fun b' σ' => cRes L w σ (pAft V' c r) b' σ') := by
  match r, h, hW with
  | (none, p2), ⟨c1, b0, f5, w', w1, w2, w3⟩, W =>
    obtain ⟨s4, w4, f4, c4, e5, g1, g2, g3⟩ := c_putAny (c := c) w3 w2
    rw [z_bdE f4, b0, z_gdT (Or.inl rfl)]
    refine z_R_some ⟨cF_tr c1 c4 (by omega), rfl, ?_, w4, by omega, g3, g1⟩
    rw [e5]; exact f5
  | (some (V, C), p2), ⟨c1, b1, r1, g4, gC⟩, ⟨v1, v2, v3, v4⟩ =>
    have f4 := c_put (c := c) g4 (by omega)
    rw [z_bdE f4, b1, z_gdT (Or.inr rfl)]
    refine z_R_some ⟨cF_tr c1 cF_put (by omega), rfl, ?_, ?_, fun j hj => ?_⟩
    · obtain ⟨q1, q2, q3, q4⟩ := r1
      refine ⟨?_, ?_, ?_, fun x => ?_⟩
      · rw [z_pt_3 (by decide), z_pt_3 (by decide)]; exact q1
      · rw [z_pt_3 (by decide), z_pt_3 (by decide)]; exact q2
      · rw [z_pt_3 (by decide), z_pt_3 (by decide)]; exact q3
      · rw [z_pt_3 (by decide), z_pt_3 (by decide)]; exact q4 x
    · rw [z_pt_1]; simp; rfl
    · have hj' : j < C.length + 1 := by simpa using hj
      rw [z_pt_3 (by decide), z_gdA]
      by_cases j1 : j < C.length
      · rw [if_pos j1, z_pt_2 (by omega)]; exact gC j j1
      · have ej : j = C.length := by omega
        rw [if_neg j1, ej, z_pt_1, Nat.sub_self]; rfl
theorem zGA_t (f : Nat) (a1 : Int32) (σ : z_Mem) : zGA (f + 1) 0 a1 σ = fX2_readEither_b (zGA f) a1 σ ∧ zGA (f + 1) 1 a1 σ = fX2_readBoth_b (zGA f) a1 σ ∧ zGA (f + 1) 2 a1 σ = fX2_readDenial_b (zGA f) a1 σ ∧ zGA (f + 1) 3 a1 σ = fX2_readComparison_b (zGA f) a1 σ ∧ zGA (f + 1) 4 a1 σ = fX2_readSum_b (zGA f) a1 σ ∧ zGA (f + 1) 5 a1 σ = fX2_readTerm_b (zGA f) a1 σ ∧ zGA (f + 1) 6 a1 σ = fX2_readOne_b (zGA f) a1 σ ∧ zGA (f + 1) 7 a1 σ = fX2_readNegation_b (zGA f) a1 σ ∧ zGA (f + 1) 8 a1 σ = fX2_readBrackets_b (zGA f) a1 σ := by
  refine ⟨?_, ?_, ?_, ?_, ?_, ?_, ?_, ?_, ?_⟩ <;> (rw [zGA]; simp)
theorem c_readers (hL : tOk L) : ∀ (f t o f' : Nat), t ≤ 5 → o ≤ 5 → 6 * (5 - o) + (6 - t) ≤ f → 8 * (5 - o) + (if t = 0 then 7 else if t = 1 then 6 else if t = 2 then 5 else if t = 3 then 3 else if t = 4 then 2 else 1) ≤ f' → cSp L (zGA f' (if t = 0 then 0 else if t = 1 then 1 else if t = 2 then 2 else if t = 3 then 4 else if t = 4 then 5 else 6) (nI o)) (pG L f t o)
  | 0, t, o, f', ht, ho, hf, _ => by omega
  | f + 1, t, o, f', ht, ho, hf, hf' => by
    have hl := hL.1
    rcases (show t = 0 ∨ t = 1 ∨ t = 2 ∨ t = 3 ∨ t = 4 ∨ t = 5 by omega) with rfl | rfl | rfl | rfl | rfl | rfl
    · obtain ⟨g, rfl⟩ : ∃ g, f' = g + 1 := ⟨f' - 1, by simp at hf'; omega⟩
      have hf'' : 8 * (5 - o) + 7 ≤ g + 1 := hf'
      have hG := c_readers hL f 1 o g (by omega) ho (by omega) (by show 8 * (5 - o) + 6 ≤ g; omega)
      have e : pG L (f + 1) 0 o = pBin L pOr (pG L f 1 o) := by funext p; rw [pG, if_pos rfl]
      rw [e]
      exact cSp_eq (c_bin hL lp_either hG pOr_ok (fun p hp => pG_W hL f 1 o p (by omega) ho hp)) (fun σ => (zGA_t g (nI o) σ).1)
    · obtain ⟨g, rfl⟩ : ∃ g, f' = g + 1 := ⟨f' - 1, by simp at hf'; omega⟩
      have hf'' : 8 * (5 - o) + 6 ≤ g + 1 := hf'
      have hG := c_readers hL f 2 o g (by omega) ho (by omega) (by show 8 * (5 - o) + 5 ≤ g; omega)
      have e : pG L (f + 1) 1 o = pBin L pAnd (pG L f 2 o) := by funext p; rw [pG, if_neg (by omega), if_pos rfl]
      rw [e]
      exact cSp_eq (c_bin hL lp_both hG pAnd_ok (fun p hp => pG_W hL f 2 o p (by omega) ho hp)) (fun σ => (zGA_t g (nI o) σ).2.1)
    · obtain ⟨g, rfl⟩ : ∃ g, f' = g + 1 := ⟨f' - 1, by simp at hf'; omega⟩
      have hf'' : 8 * (5 - o) + 5 ≤ g + 1 := hf'
      obtain ⟨g2, rfl⟩ : ∃ g2, g = g2 + 1 := ⟨g - 1, by omega⟩
      have e : pG L (f + 1) 2 o = pNot L (pG L f 2 (o + 1)) (pG L f 3 o) o := by funext p; rw [pG, if_neg (by omega), if_neg (by omega), if_pos rfl]
      rw [e]
      intro p w σ hp htp hr h4 hroom
      show z_R (zGA (g2 + 1 + 1) 2 (nI o) σ) _
      rw [(zGA_t (g2 + 1) (nI o) σ).2.2.1]
      unfold fX2_readDenial_b pNot
      rw [hr.2.2.1]
      by_cases e7 : tT L p = 267
      · rw [if_pos e7, if_pos e7]
        by_cases ho5 : o < 5
        · rw [if_pos (by rw [show (5 : Int32) = nI 5 by decide]; exact nI_lt ho5 (by decide)), if_pos ho5, nI_1]
          have hn := tN_gt (L := L) (p := p) (by rw [e7]; decide)
          have hnl := tN_le hL hp
          have hlt := tT_lt (L := L) (p := p) (by rw [e7]; decide) hp
          have hG := c_readers hL f 2 (o + 1) (g2 + 1) (by omega) (by omega) (by omega) (by show 8 * (5 - (o + 1)) + 5 ≤ g2 + 1; omega)
          obtain ⟨u, s2, f2, a2, r2⟩ := c_advance hL htp hr.1 hnl
          have h42 : s2.1 1 4 = nI w := by rw [a2.1 1 (by omega)]; exact h4
          obtain ⟨b3, s3, f3, R3⟩ := hG (tN L p) w s2 hnl (cTp_A htp a2) r2 h42 (by omega)
          have f3' : zGA (g2 + 1) 2 (nI (o + 1)) s2 = some (b3, s3) := f3
          rw [z_bdE f2, z_bdE f3']
          have A := c_after (c := 20267) (V' := fun V e => zop 267 (V e) (V e)) R3 (pG_W hL f 2 (o + 1) (tN L p) (by omega) (by omega) hnl) (by omega)
          refine z_R_mono A (fun b s' hx => ?_)
          clear A R3 f3 f3'
          generalize pG L f 2 (o + 1) (tN L p) = r at hx ⊢
          rcases r with ⟨_ | ⟨V, C⟩, p2⟩
          · exact ⟨cF_tr (cF_A a2) hx.1 (Nat.le_refl _), hx.2⟩
          · exact ⟨cF_tr (cF_A a2) hx.1 (Nat.le_refl _), hx.2⟩
        · rw [if_neg (by rw [show (5 : Int32) = nI 5 by decide]; exact nI_nlt (by omega) (by omega)), if_neg ho5]
          exact z_R_some ⟨cF_rf, rfl, hr.2.1, w, Nat.le_refl _, by omega, h4⟩
      · rw [if_neg e7, if_neg e7]
        have hG := c_readers hL f 3 o g2 (by omega) ho (by omega) (by show 8 * (5 - o) + 3 ≤ g2; omega)
        have eC : zGA (g2 + 1) 3 (nI o) σ = fX2_readComparison_b (zGA g2) (nI o) σ := (zGA_t g2 (nI o) σ).2.2.2.1
        have tb : ∀ (r : pR) (x : Option (Int32 × z_Mem)), z_R x (fun b s => cRes L w σ r b s) → z_R (z_bd x (fun r4 s4 => z_gd (z_bool r4) (some (r4, s4)))) (fun b s => cRes L w σ r b s) := fun r x hx => by
          obtain ⟨b, s, e, R⟩ := hx
          rw [z_bdE e]
          have hb : z_bool b := by
            match r, R with
            | (none, _), ⟨_, b0, _⟩ => exact Or.inl b0
            | (some (_, _), _), ⟨_, b1, _⟩ => exact Or.inr b1
          rw [z_gdT hb]
          exact z_R_some R
        refine tb _ _ ?_
        rw [eC]
        unfold fX2_readComparison_b
        obtain ⟨b3, s3, f3, R3⟩ := hG p w σ hp htp hr h4 hroom
        have f3' : zGA g2 4 (nI o) σ = some (b3, s3) := f3
        rw [z_bdE f3']
        have W3 := pG_W hL f 3 o p (by omega) ho hp
        match hR : pG L f 3 o p, R3, W3 with
        | (none, p2), ⟨c3, b0, rest⟩, W3 =>
          rw [b0, if_pos rfl, z_gdT (Or.inl rfl)]
          exact z_R_some ⟨c3, rfl, rest⟩
        | (some (V, C), p2), ⟨c3, b1, r3, g4, gC⟩, ⟨v1, v2, v3, v4⟩ =>
          rw [b1, if_neg z_10, r3.2.2.1]
          show z_R _ (fun b σ' => cRes L w σ (if tT L p2 = 60 ∨ tT L p2 = 61 then (match pG L f 3 o (tN L p2) with
            | (none, p3) => (none, p3)
            | (some (V2, C2), p3) => (some (fun e => zop (tT L p2) (V e) (V2 e), C ++ C2 ++ [20000 + tT L p2]), p3)) else (some (V, C), p2)) b σ')
          by_cases e6 : tT L p2 = 60 ∨ tT L p2 = 61
          · rw [if_pos e6]
            have hne : ¬ tT L p2 = 0 := by rcases e6 with e | e <;> (rw [e]; decide)
            have hn := tN_gt hne
            have hnl := tN_le hL v2
            have body : z_R (z_bd (fX2_advance s3) (fun _ s5 => z_bd (zGA g2 4 (nI o) s5) (fun r6 s6 => z_bd (fX4_put ((20000 : Int32) + tT L p2) s6) (fun _ s7 => z_gd (z_bool r6) (some (r6, s7)))))) (fun b σ' => cRes L w σ (match pG L f 3 o (tN L p2) with
                | (none, p3) => (none, p3)
                | (some (V2, C2), p3) => (some (fun e => zop (tT L p2) (V e) (V2 e), C ++ C2 ++ [20000 + tT L p2]), p3)) b σ') := by
              have t3 := cTp_F htp c3
              obtain ⟨u, s5, f5, a5, r5⟩ := c_advance hL t3 r3.1 hnl
              have h45 : s5.1 1 4 = nI (w + C.length) := by rw [a5.1 1 (by omega)]; exact g4
              obtain ⟨b6, s6, f6, R6⟩ := hG (tN L p2) (w + C.length) s5 hnl (cTp_A t3 a5) r5 h45 (by omega)
              have f6' : zGA g2 4 (nI o) s5 = some (b6, s6) := f6
              have W6 := pG_W hL f 3 o (tN L p2) (by omega) ho hnl
              rw [z_bdE f5, z_bdE f6']
              match hR2 : pG L f 3 o (tN L p2), R6, W6 with
              | (none, p3), ⟨c6, b60, q5, w', w1, w2, w3⟩, W6 =>
                obtain ⟨s7, w7, f7, c7, e5, g1, g2', g3⟩ := c_putAny (c := 20000 + tT L p2) w3 w2
                rw [z_bdE f7, b60, z_gdT (Or.inl rfl)]
                refine z_R_some ⟨cF_tr c3 (cF_tr (cF_A a5) (cF_tr c6 c7 (by omega)) (Nat.le_refl _)) (by omega), rfl, ?_, w7, by omega, g3, g1⟩
                rw [e5]; exact q5
              | (some (V2, C2), p3), ⟨c6, b61, r6, g46, gC6⟩, ⟨x1, x2, x3, x4⟩ =>
                have f7 := c_put (c := 20000 + tT L p2) g46 (by omega)
                rw [z_bdE f7, b61, z_gdT (Or.inr rfl)]
                have hlen3 : (C ++ C2 ++ [20000 + tT L p2]).length = C.length + C2.length + 1 := by simp; omega
                refine z_R_some ⟨cF_tr c3 (cF_tr (cF_A a5) (cF_tr c6 cF_put (by omega)) (Nat.le_refl _)) (by omega), rfl, ?_, ?_, fun j hj => ?_⟩
                · obtain ⟨q1, q2, q3, q4⟩ := r6
                  refine ⟨?_, ?_, ?_, fun x => ?_⟩
                  · rw [z_pt_3 (by decide), z_pt_3 (by decide)]; exact q1
                  · rw [z_pt_3 (by decide), z_pt_3 (by decide)]; exact q2
                  · rw [z_pt_3 (by decide), z_pt_3 (by decide)]; exact q3
                  · rw [z_pt_3 (by decide), z_pt_3 (by decide)]; exact q4 x
                · rw [z_pt_1, hlen3]; exact congrArg nI (by omega)
                · rw [hlen3] at hj
                  rw [z_pt_3 (by decide), z_gdA, z_gdA]
                  simp only [List.length_append]
                  by_cases j1 : j < C.length
                  · rw [if_pos (by omega), if_pos j1, z_pt_2 (by omega), c6.2.2.1 _ (by omega), a5.1 2 (by omega)]
                    exact gC j j1
                  · by_cases j2 : j < C.length + C2.length
                    · rw [if_pos j2, if_neg j1, z_pt_2 (by omega)]
                      have := gC6 (j - C.length) (by omega)
                      rw [show w + C.length + (j - C.length) = w + j by omega] at this
                      exact this
                    · have ej : j = C.length + C2.length := by omega
                      rw [if_neg j2, ej, show w + (C.length + C2.length) = w + C.length + C2.length by omega, z_pt_1, Nat.sub_self]
                      rfl
            by_cases e60 : tT L p2 = 60
            · rw [if_pos e60]; exact body
            · rw [if_neg e60, if_pos (e6.resolve_left e60)]; exact body
          · rw [if_neg e6, if_neg (fun q => e6 (Or.inl q)), if_neg (fun q => e6 (Or.inr q)), z_gdT (Or.inr rfl)]
            exact z_R_some ⟨c3, rfl, r3, g4, gC⟩
    · obtain ⟨g, rfl⟩ : ∃ g, f' = g + 1 := ⟨f' - 1, by simp at hf'; omega⟩
      have hf'' : 8 * (5 - o) + 3 ≤ g + 1 := hf'
      have hG := c_readers hL f 4 o g (by omega) ho (by omega) (by show 8 * (5 - o) + 2 ≤ g; omega)
      have e : pG L (f + 1) 3 o = pBin L pAdd (pG L f 4 o) := by funext p; rw [pG, if_neg (by omega), if_neg (by omega), if_neg (by omega), if_pos rfl]
      rw [e]
      exact cSp_eq (c_bin hL lp_sum hG pAdd_ok (fun p hp => pG_W hL f 4 o p (by omega) ho hp)) (fun σ => (zGA_t g (nI o) σ).2.2.2.2.1)
    · obtain ⟨g, rfl⟩ : ∃ g, f' = g + 1 := ⟨f' - 1, by simp at hf'; omega⟩
      have hf'' : 8 * (5 - o) + 2 ≤ g + 1 := hf'
      have hG := c_readers hL f 5 o g (by omega) ho (by omega) (by show 8 * (5 - o) + 1 ≤ g; omega)
      have e : pG L (f + 1) 4 o = pBin L pMul (pG L f 5 o) := by funext p; rw [pG, if_neg (by omega), if_neg (by omega), if_neg (by omega), if_neg (by omega), if_pos rfl]
      rw [e]
      exact cSp_eq (c_bin hL lp_term hG pMul_ok (fun p hp => pG_W hL f 5 o p (by omega) ho hp)) (fun σ => (zGA_t g (nI o) σ).2.2.2.2.2.1)
    · obtain ⟨g, rfl⟩ : ∃ g, f' = g + 1 := ⟨f' - 1, by simp at hf'; omega⟩
      have hf'' : 8 * (5 - o) + 1 ≤ g + 1 := hf'
      have e : pG L (f + 1) 5 o = pOne L (pG L f 5 (o + 1)) (pG L f 0 (o + 1)) o := by funext p; rw [pG, if_neg (by omega), if_neg (by omega), if_neg (by omega), if_neg (by omega), if_neg (by omega)]
      rw [e]
      intro p w σ hp htp hr h4 hroom
      show z_R (zGA (g + 1) 6 (nI o) σ) _
      rw [(zGA_t g (nI o) σ).2.2.2.2.2.2.1]
      have hnl := tN_le hL hp
      unfold fX2_readOne_b pOne
      rw [hr.2.2.1]
      have lit : ∀ (c : Int32) (V : pV), ¬ tT L p = 0 → z_R (z_bd (fX4_put c σ) (fun _ s7 => z_bd (fX2_advance s7) (fun _ s8 => some ((1 : Int32), s8)))) (fun b σ' => cRes L w σ (some (V, [c]), tN L p) b σ') := fun c V hne => by
        have hlt := tT_lt hne hp
        have f4 := c_put (c := c) h4 (by omega)
        have t4 : cTp (z_pt (z_pt σ 2 w c) 1 4 (nI (w + 1))) L := cTp_F htp (cF_put (w := w))
        have e3 : (z_pt (z_pt σ 2 w c) 1 4 (nI (w + 1))).1 5 3 = nI (tN L p) := by rw [z_pt_3 (by decide), z_pt_3 (by decide)]; exact hr.1
        obtain ⟨u, s2, f2, a2, r2⟩ := c_advance hL t4 e3 hnl
        rw [z_bdE f4, z_bdE f2]
        refine z_R_some ⟨cF_tr cF_put (cF_A a2) (Nat.le_refl _), rfl, r2, ?_, fun j hj => ?_⟩
        · rw [a2.1 1 (by omega), z_pt_1]; rfl
        · have : j = 0 := by simpa using hj
          rw [this, a2.1 2 (by omega), z_pt_3 (by decide), Nat.add_zero, z_pt_1]; rfl
      have bad : z_R (some ((0 : Int32), σ)) (fun b σ' => cRes L w σ (none, p) b σ') := z_R_some ⟨cF_rf, rfl, hr.2.1, w, Nat.le_refl _, by omega, h4⟩
      by_cases e2 : tT L p = 2
      · rw [if_pos e2, if_pos e2, hr.2.2.2 e2]
        exact lit _ _ (by rw [e2]; decide)
      rw [if_neg e2, if_neg e2]
      by_cases e3 : 256 ≤ tT L p ∧ tT L p < 262
      · rw [if_neg (Int32.not_lt.mpr e3.1), if_neg (Int32.not_le.mpr e3.2), if_pos e3]
        exact lit _ _ (fun q => by rw [q] at e3; exact absurd e3.1 (by decide))
      rw [if_neg e3]
      have J : (if tT L p < (256 : Int32) then (fX2_readOne_j70 (zGA g) (nI o) σ) else (if (262 : Int32) ≤ tT L p then (fX2_readOne_j70 (zGA g) (nI o) σ) else (z_bd (fX4_put (((10000 : Int32) + (tT L p)) - (256 : Int32)) σ) (fun _ s5 => z_bd (fX2_advance s5) (fun _ s6 => some ((1 : Int32), s6)))))) = fX2_readOne_j70 (zGA g) (nI o) σ := by
        by_cases q1 : tT L p < 256
        · rw [if_pos q1]
        · rw [if_neg q1, if_pos (Int32.not_lt.mp (fun q => e3 ⟨Int32.not_lt.mp q1, q⟩))]
      rw [J]
      unfold fX2_readOne_j70
      rw [hr.2.2.1]
      by_cases ho5 : 5 ≤ o
      · rw [if_pos (z_lle 5 5 (by decide) ho5 (by omega)), if_pos ho5]
        exact bad
      rw [if_neg (z_nle 5 5 (by decide) (by omega) (by decide)), if_neg ho5, nI_1]
      have tb : ∀ (r : pR) (x : Option (Int32 × z_Mem)), z_R x (fun b s => cRes L w σ r b s) → z_R (z_bd x (fun r4 s4 => z_gd (z_bool r4) (some (r4, s4)))) (fun b s => cRes L w σ r b s) := fun r x hx => by
        obtain ⟨b, s, e, R⟩ := hx
        rw [z_bdE e]
        have hb : z_bool b := by
          match r, R with
          | (none, _), ⟨_, b0, _⟩ => exact Or.inl b0
          | (some (_, _), _), ⟨_, b1, _⟩ => exact Or.inr b1
        rw [z_gdT hb]
        exact z_R_some R
      obtain ⟨g2, rfl⟩ : ∃ g2, g = g2 + 1 := ⟨g - 1, by omega⟩
      by_cases e4 : tT L p = 45
      · rw [if_pos e4, if_pos e4, if_pos e4]
        refine tb _ _ ?_
        rw [(zGA_t g2 (nI (o + 1)) σ).2.2.2.2.2.2.2.1]
        unfold fX2_readNegation_b
        have hlt := tT_lt (L := L) (p := p) (by rw [e4]; decide) hp
        have hn := tN_gt (L := L) (p := p) (by rw [e4]; decide)
        have hG := c_readers hL f 5 (o + 1) g2 (by omega) (by omega) (by omega) (by show 8 * (5 - (o + 1)) + 1 ≤ g2; omega)
        obtain ⟨u, s2, f2, a2, r2⟩ := c_advance hL htp hr.1 hnl
        have h42 : s2.1 1 4 = nI w := by rw [a2.1 1 (by omega)]; exact h4
        obtain ⟨b3, s3, f3, R3⟩ := hG (tN L p) w s2 hnl (cTp_A htp a2) r2 h42 (by omega)
        have f3' : zGA g2 6 (nI (o + 1)) s2 = some (b3, s3) := f3
        rw [z_bdE f2, z_bdE f3']
        have A := c_after (c := 20003) (V' := fun V e => zop 3 (V e) (V e)) R3 (pG_W hL f 5 (o + 1) (tN L p) (by omega) (by omega) hnl) (by omega)
        refine z_R_mono A (fun b s' hx => ?_)
        clear A R3 f3 f3'
        generalize pG L f 5 (o + 1) (tN L p) = r at hx ⊢
        rcases r with ⟨_ | ⟨V, C⟩, p2⟩
        · exact ⟨cF_tr (cF_A a2) hx.1 (Nat.le_refl _), hx.2⟩
        · exact ⟨cF_tr (cF_A a2) hx.1 (Nat.le_refl _), hx.2⟩
      simp only [if_neg e4]
      by_cases e5 : tT L p = 40
      · rw [if_pos e5, if_pos e5]
        refine tb _ _ ?_
        rw [(zGA_t g2 (nI (o + 1)) σ).2.2.2.2.2.2.2.2]
        unfold fX2_readBrackets_b
        have hlt := tT_lt (L := L) (p := p) (by rw [e5]; decide) hp
        have hn := tN_gt (L := L) (p := p) (by rw [e5]; decide)
        have hG := c_readers hL f 0 (o + 1) g2 (by omega) (by omega) (by omega) (by show 8 * (5 - (o + 1)) + 7 ≤ g2; omega)
        obtain ⟨u, s2, f2, a2, r2⟩ := c_advance hL htp hr.1 hnl
        have h42 : s2.1 1 4 = nI w := by rw [a2.1 1 (by omega)]; exact h4
        obtain ⟨b3, s3, f3, R3⟩ := hG (tN L p) w s2 hnl (cTp_A htp a2) r2 h42 (by omega)
        have f3' : zGA g2 0 (nI (o + 1)) s2 = some (b3, s3) := f3
        rw [z_bdE f2, z_bdE f3']
        have W3 := pG_W hL f 0 (o + 1) (tN L p) (by omega) (by omega) hnl
        clear f3 f3'
        generalize pG L f 0 (o + 1) (tN L p) = r at R3 W3 ⊢
        rcases r with ⟨_ | ⟨V, C⟩, p2⟩
        · obtain ⟨c3, b0, rest⟩ := R3
          rw [b0, if_pos rfl]
          exact z_R_some ⟨cF_tr (cF_A a2) c3 (Nat.le_refl _), rfl, rest⟩
        · obtain ⟨c3, b1, r3, g4, gC⟩ := R3
          obtain ⟨v1, v2, v3, v4⟩ := W3
          rw [b1, if_neg z_10, r3.2.2.1]
          show z_R _ (fun b σ' => cRes L w σ (if tT L p2 = 41 then (some (V, C), tN L p2) else (none, p2)) b σ')
          by_cases e6 : tT L p2 = 41
          · rw [if_pos e6, if_pos e6]
            have t3 := cTp_F (cTp_A htp a2) c3
            obtain ⟨u, s4, f4, a4, r4⟩ := c_advance hL t3 r3.1 (tN_le hL v2)
            rw [z_bdE f4]
            refine z_R_some ⟨cF_tr (cF_tr (cF_A a2) c3 (Nat.le_refl _)) (cF_A a4) (Nat.le_refl _), rfl, r4, ?_, fun j hj => ?_⟩
            · rw [a4.1 1 (by omega)]; exact g4
            · rw [a4.1 2 (by omega)]; exact gC j hj
          · rw [if_neg e6, if_neg e6]
            exact z_R_some ⟨cF_tr (cF_A a2) c3 (Nat.le_refl _), rfl, r3.2.1, w + C.length, by omega, by omega, g4⟩
      · rw [if_neg e5, if_neg e5]
        exact bad
end ZRE
