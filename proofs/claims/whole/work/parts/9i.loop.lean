/-! the law's loop -/
section ZLO
variable {p : Program} {l : Launch} {e : Env} {R : Room} {s : State} {m : MethodId} {args : Array Value} {below : List Frame} {meth : Method} {c : Code} {H : Heap} {locs : List Loc} {cells slots : Nat} {Q : State → Prop}
variable {D : va_G} {cy : z_Cy} {b L : Nat} {xs : Nat → Int32} {adC adM : Nat → Nat} {i : Nat} {ls : Array Slot} {σ τ : z_Mem} {g : zG}
theorem lw_switch {x : Int32} (F : zLF p s m args c D cy b L xs adC adM) (hR : 1000 ≤ R.frames ∧ 36000 ≤ R.locals) (hf : cells ≤ R.cells ∧ slots ≤ R.slots) (hi : i + 6 ≤ L) (hl : lv_has ls 4 (z_lls adC adM b i)) (hc : cG σ g) (hm : mG τ g) (hw : gW g) (hP : va_P D vwCl (z_ws YC adC cy σ) H) (hP2 : va_P D vwCl (z_ws YM adM cy τ) H) (hS : va_S (fun q => s.heap.size ≤ q) s.heap H locs)
    (kk : ∀ (σ τ : z_Mem) (g : zG) (H : Heap) (locs : List Loc), cG σ g → mG τ g → gW g → va_P D vwCl (z_ws YC adC cy σ) H → va_P D vwCl (z_ws YM adM cy τ) H → va_S (fun q => s.heap.size ≤ q) s.heap H locs → W p l e R s m args below meth c H locs cells slots Q (F0 m 1191 ls [])) : W p l e R s m args below meth c H locs cells slots Q (F0 m 33 ls [.int x]) := by
  have hx := F.1
  have hb := F.2.1
  rcases (show (x.toInt < 0 ∨ 32 < x.toInt) ∨ x.toInt = 0 ∨ x.toInt = 1 ∨ x.toInt = 2 ∨ x.toInt = 3 ∨ x.toInt = 4 ∨ x.toInt = 5 ∨ x.toInt = 6 ∨ x.toInt = 7 ∨ x.toInt = 8 ∨ x.toInt = 9 ∨ x.toInt = 10 ∨ x.toInt = 11 ∨ x.toInt = 12 ∨ x.toInt = 13 ∨ x.toInt = 14 ∨ x.toInt = 15 ∨ x.toInt = 16 ∨ x.toInt = 17 ∨ x.toInt = 18 ∨ x.toInt = 19 ∨ x.toInt = 20 ∨ x.toInt = 21 ∨ x.toInt = 22 ∨ x.toInt = 23 ∨ x.toInt = 24 ∨ x.toInt = 25 ∨ x.toInt = 26 ∨ x.toInt = 27 ∨ x.toInt = 28 ∨ x.toInt = 29 ∨ x.toInt = 30 ∨ x.toInt = 31 ∨ x.toInt = 32 by omega) with h | h | h | h | h | h | h | h | h | h | h | h | h | h | h | h | h | h | h | h | h | h | h | h | h | h | h | h | h | h | h | h | h | h
  · exact lv_tableOut hx hb dL_law_33 (tgt := 1191) h rfl (kk σ τ g H locs hc hm hw hP hP2 hS)
  · exact lv_tableIn hx hb dL_law_33 (tgt := 180) (off := 147) (by rw [h]; decide) (by rw [h]; decide) (by rw [h]; rfl) rfl (lw_set F hR hf hi hl hc hm hw hP hP2 hS kk)
  · exact lv_tableIn hx hb dL_law_33 (tgt := 223) (off := 190) (by rw [h]; decide) (by rw [h]; decide) (by rw [h]; rfl) rfl (lw_man F hR hf hi hl hc hm hw hP hP2 hS kk)
  · exact lv_tableIn hx hb dL_law_33 (tgt := 266) (off := 233) (by rw [h]; decide) (by rw [h]; decide) (by rw [h]; rfl) rfl (lw_told F hR hf hi hl hc hm hw hP hP2 hS kk)
  · exact lv_tableIn hx hb dL_law_33 (tgt := 299) (off := 266) (by rw [h]; decide) (by rw [h]; decide) (by rw [h]; rfl) rfl (lw_grips F hR hf hi hl hc hm hw hP hP2 hS kk)
  · exact lv_tableIn hx hb dL_law_33 (tgt := 332) (off := 299) (by rw [h]; decide) (by rw [h]; decide) (by rw [h]; rfl) rfl (lw_hands F hR hf hi hl hc hm hw hP hP2 hS kk)
  · exact lv_tableIn hx hb dL_law_33 (tgt := 365) (off := 332) (by rw [h]; decide) (by rw [h]; decide) (by rw [h]; rfl) rfl (lw_feed F hR hf hi hl hc hm hw hP hP2 hS kk)
  · exact lv_tableIn hx hb dL_law_33 (tgt := 388) (off := 355) (by rw [h]; decide) (by rw [h]; decide) (by rw [h]; rfl) rfl (lw_text F hR hf hi hl hc hm hw hP hP2 hS kk)
  · exact lv_tableIn hx hb dL_law_33 (tgt := 401) (off := 368) (by rw [h]; decide) (by rw [h]; decide) (by rw [h]; rfl) rfl (lw_force F hR hf hi hl hc hm hw hP hP2 hS kk)
  · exact lv_tableIn hx hb dL_law_33 (tgt := 424) (off := 391) (by rw [h]; decide) (by rw [h]; decide) (by rw [h]; rfl) rfl (lw_out F hR hf hi hl hc hm hw hP hP2 hS kk)
  · exact lv_tableIn hx hb dL_law_33 (tgt := 447) (off := 414) (by rw [h]; decide) (by rw [h]; decide) (by rw [h]; rfl) rfl (lw_into F hR hf hi hl hc hm hw hP hP2 hS kk)
  · exact lv_tableIn hx hb dL_law_33 (tgt := 480) (off := 447) (by rw [h]; decide) (by rw [h]; decide) (by rw [h]; rfl) rfl (lw_swap F hR hf hi hl hc hm hw hP hP2 hS kk)
  · exact lv_tableIn hx hb dL_law_33 (tgt := 513) (off := 480) (by rw [h]; decide) (by rw [h]; decide) (by rw [h]; rfl) rfl (lw_hour F hR hf hi hl hc hm hw hP hP2 hS kk)
  · exact lv_tableIn hx hb dL_law_33 (tgt := 526) (off := 493) (by rw [h]; decide) (by rw [h]; decide) (by rw [h]; rfl) rfl (lw_wall F hR hf hi hl hc hm hw hP hP2 hS kk)
  · exact lv_tableIn hx hb dL_law_33 (tgt := 549) (off := 516) (by rw [h]; decide) (by rw [h]; decide) (by rw [h]; rfl) rfl (lw_sneeze F hR hf hi hl hc hm hw hP hP2 hS kk)
  · exact lv_tableIn hx hb dL_law_33 (tgt := 592) (off := 559) (by rw [h]; decide) (by rw [h]; decide) (by rw [h]; rfl) rfl (lw_run F hR hf hi hl hc hm hw hP hP2 hS kk)
  · exact lv_tableIn hx hb dL_law_33 (tgt := 625) (off := 592) (by rw [h]; decide) (by rw [h]; decide) (by rw [h]; rfl) rfl (lw_opens F hR hf hi hl hc hm hw hP hP2 hS kk)
  · exact lv_tableIn hx hb dL_law_33 (tgt := 638) (off := 605) (by rw [h]; decide) (by rw [h]; decide) (by rw [h]; rfl) rfl (lw_order F hR hf hi hl hc hm hw hP hP2 hS kk)
  · exact lv_tableIn hx hb dL_law_33 (tgt := 661) (off := 628) (by rw [h]; decide) (by rw [h]; decide) (by rw [h]; rfl) rfl (lw_let F hR hf hi hl hc hm hw hP hP2 hS kk)
  · exact lv_tableIn hx hb dL_law_33 (tgt := 684) (off := 651) (by rw [h]; decide) (by rw [h]; decide) (by rw [h]; rfl) rfl (lw_letsIn F hR hf hi hl hc hm hw hP hP2 hS kk)
  · exact lv_tableIn hx hb dL_law_33 (tgt := 717) (off := 684) (by rw [h]; decide) (by rw [h]; decide) (by rw [h]; rfl) rfl (lw_swaps F hR hf hi hl hc hm hw hP hP2 hS kk)
  · exact lv_tableIn hx hb dL_law_33 (tgt := 730) (off := 697) (by rw [h]; decide) (by rw [h]; decide) (by rw [h]; rfl) rfl (lw_mean F hR hf hi hl hc hm hw hP hP2 hS kk)
  · exact lv_tableIn hx hb dL_law_33 (tgt := 754) (off := 721) (by rw [h]; decide) (by rw [h]; decide) (by rw [h]; rfl) rfl (lw_tells F hR hf hi hl hc hm hw hP hP2 hS kk)
  · exact lv_tableIn hx hb dL_law_33 (tgt := 797) (off := 764) (by rw [h]; decide) (by rw [h]; decide) (by rw [h]; rfl) rfl (lw_film F hR hf hi hl hc hm hw hP hP2 hS kk)
  · exact lv_tableIn hx hb dL_law_33 (tgt := 820) (off := 787) (by rw [h]; decide) (by rw [h]; decide) (by rw [h]; rfl) rfl (lw_drawn F hR hf hi hl hc hm hw hP hP2 hS kk)
  · exact lv_tableIn hx hb dL_law_33 (tgt := 853) (off := 820) (by rw [h]; decide) (by rw [h]; decide) (by rw [h]; rfl) rfl (lw_chance F hR hf hi hl hc hm hw hP hP2 hS kk)
  · exact lv_tableIn hx hb dL_law_33 (tgt := 907) (off := 874) (by rw [h]; decide) (by rw [h]; decide) (by rw [h]; rfl) rfl (lw_image F hR hf hi hl hc hm hw hP hP2 hS kk)
  · exact lv_tableIn hx hb dL_law_33 (tgt := 920) (off := 887) (by rw [h]; decide) (by rw [h]; decide) (by rw [h]; rfl) rfl (lw_back F hR hf hi hl hc hm hw hP hP2 hS kk)
  · exact lv_tableIn hx hb dL_law_33 (tgt := 933) (off := 900) (by rw [h]; decide) (by rw [h]; decide) (by rw [h]; rfl) rfl (lw_count F hR hf hi hl hc hm hw hP hP2 hS kk)
  · exact lv_tableIn hx hb dL_law_33 (tgt := 956) (off := 923) (by rw [h]; decide) (by rw [h]; decide) (by rw [h]; rfl) rfl (lw_sheet F hR hf hi hl hc hm hw hP hP2 hS kk)
  · exact lv_tableIn hx hb dL_law_33 (tgt := 999) (off := 966) (by rw [h]; decide) (by rw [h]; decide) (by rw [h]; rfl) rfl (lw_cell F hR hf hi hl hc hm hw hP hP2 hS kk)
  · exact lv_tableIn hx hb dL_law_33 (tgt := 1042) (off := 1009) (by rw [h]; decide) (by rw [h]; decide) (by rw [h]; rfl) rfl (lw_copy F hR hf hi hl hc hm hw hP hP2 hS kk)
  · exact lv_tableIn hx hb dL_law_33 (tgt := 1105) (off := 1072) (by rw [h]; decide) (by rw [h]; decide) (by rw [h]; rfl) rfl (lw_chain F hR hf hi hl hc hm hw hP hP2 hS kk)
  · exact lv_tableIn hx hb dL_law_33 (tgt := 1158) (off := 1125) (by rw [h]; decide) (by rw [h]; decide) (by rw [h]; rfl) rfl (lw_taken F hR hf hi hl hc hm hw hP hP2 hS kk)
theorem lw_loop (F : zLF p s m args c D cy b L xs adC adM) (hR : 1000 ≤ R.frames ∧ 36000 ≤ R.locals) (hf : cells ≤ R.cells ∧ slots ≤ R.slots)
    (kk : ∀ (H : Heap) (locs : List Loc) (ls : Array Slot), va_S (fun q => s.heap.size ≤ q) s.heap H locs → W p l e R s m args below meth c H locs cells slots Q (F0 m 1197 ls [])) :
    ∀ (k i : Nat), L < i + 6 * k → i ≤ L → ∀ (σ τ : z_Mem) (g : zG) (H : Heap) (locs : List Loc) (ls : Array Slot), lv_has ls 4 (z_lls adC adM b i) → cG σ g → mG τ g → gW g → va_P D vwCl (z_ws YC adC cy σ) H → va_P D vwCl (z_ws YM adM cy τ) H → va_S (fun q => s.heap.size ≤ q) s.heap H locs → W p l e R s m args below meth c H locs cells slots Q (F0 m 18 ls []) := by
  obtain ⟨hx, hb, hml, hown, hts, hK, hX, hbl, hL, -⟩ := id F
  intro k
  induction k with
  | zero =>
    intro i h1 h2
    exact absurd h1 (by omega)
  | succ k ih =>
    intro i h1 h2 σ τ g H locs ls hl hc hm hw hP hP2 hS
    have e1 : (nI L - nI 6).toInt = (L : Int) - 6 := pk_sub_toInt (by omega) (by decide)
    have e2 : (nI i).toInt = (i : Int) := nI_toInt (by omega)
    refine lv_iload_n hx hb dL_law_18 rfl (lv_at hl 0 rfl) ?_
    refine lv_aload_n hx hb dL_law_19 rfl (lv_at hl 3 rfl) ?_
    refine va_slen hx hb hX hbl (Nat.not_le.mpr hbl) hS dL_law_20 ?_
    refine lv_bipush (v := nI 6) hx hb dL_law_21 rfl ?_
    refine lv_isub hx hb dL_law_23 ?_
    refine lv_icmp_gt (y := nI L - nI 6) hx hb dL_law_24 (tgt := 1197) rfl (fun _ => kk H locs ls hS) (fun h => ?_)
    have hi6 : i + 6 ≤ L := by
      have : ¬ (nI L - nI 6).toInt < (nI i).toInt := fun q => h (Int32.lt_iff_toInt_lt.mpr q)
      rw [e1, e2] at this
      omega
    refine lv_aload_n hx hb dL_law_27 rfl (lv_at hl 3 rfl) ?_
    refine lv_iload_n hx hb dL_law_28 rfl (lv_at hl 0 rfl) ?_
    refine va_sld (b := b) (L := L) (xs := xs) hx hb hX hbl (Nat.not_le.mpr hbl) hS (vp_in_nI (by omega) (by omega)) dL_law_29 ?_
    refine lv_bipush (v := nI 63) hx hb dL_law_30 rfl ?_
    refine lv_iand hx hb dL_law_32 ?_
    refine lw_switch F hR hf hi6 hl hc hm hw hP hP2 hS (fun σ τ g H locs hc hm hw hP hP2 hS => ?_)
    refine lv_iinc (lv' := z_lls adC adM b (i + 6)) hx hb dL_law_1191 hl (k := 0) rfl (by rw [show Int32.ofInt 6 = nI 6 by decide, nI_add]) (by decide) rfl (fun ls hl => ?_)
    refine lv_goto hx hb dL_law_1194 (tgt := 18) rfl ?_
    exact ih (i + 6) (by omega) hi6 σ τ g H locs ls hl hc hm hw hP hP2 hS
end ZLO
