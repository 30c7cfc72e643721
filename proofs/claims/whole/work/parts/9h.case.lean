/-! the law's cases 22 to 32 -/
section ZLC
variable {p : Program} {l : Launch} {e : Env} {R : Room} {s : State} {m : MethodId} {args : Array Value} {below : List Frame} {meth : Method} {c : Code} {H : Heap} {locs : List Loc} {cells slots : Nat} {Q : State → Prop}
variable {D : va_G} {cy : z_Cy} {b L : Nat} {xs : Nat → Int32} {adC adM : Nat → Nat} {i : Nat} {ls : Array Slot} {σ τ : z_Mem} {g : zG}
theorem lw_film (F : zLF p s m args c D cy b L xs adC adM) (hR : 1000 ≤ R.frames ∧ 36000 ≤ R.locals) (hf : cells ≤ R.cells ∧ slots ≤ R.slots) (hi : i + 6 ≤ L) (hl : lv_has ls 4 (z_lls adC adM b i)) (hc : cG σ g) (hm : mG τ g) (hw : gW g) (hP : va_P D vwCl (z_ws YC adC cy σ) H) (hP2 : va_P D vwCl (z_ws YM adM cy τ) H) (hS : va_S (fun q => s.heap.size ≤ q) s.heap H locs)
    (kk : ∀ (σ τ : z_Mem) (g : zG) (H : Heap) (locs : List Loc), cG σ g → mG τ g → gW g → va_P D vwCl (z_ws YC adC cy σ) H → va_P D vwCl (z_ws YM adM cy τ) H → va_S (fun q => s.heap.size ≤ q) s.heap H locs → W p l e R s m args below meth c H locs cells slots Q (F0 m 1191 ls [])) : W p l e R s m args below meth c H locs cells slots Q (F0 m 797 ls []) := by
  obtain ⟨hx, hb, hml, hown, hts, hK, hX, hbl, hL, hij, hij2, hA, hA2, hap, hE, hE2⟩ := id F
  obtain ⟨r, g1, hw1, ⟨r1, σ1, e1, h1, hc1⟩, ⟨r2, τ1, e2, h2, hm1⟩⟩ := p_film hc hm hw (xs (i + 1))
  subst h1
  subst h2
  refine lv_aload_n hx hb dL_law_797 rfl (lv_at hl 2 rfl) ?_
  refine lw_arg (k := 1) F hS hl (by omega) rfl dL_law_798 dL_law_799 dL_law_800 dL_law_801 dL_law_802 ?_
  refine lw_call (Y := YC) (Y2 := YM) (ad := adC) (ad2 := adM) (σ := σ) (τ := τ) (kc := 0) (M' := mX5_film) (n := 1) (av := [zI (xs (i + 1))]) (d := 5) (mk' := z_i) ⟨hx, hb, hml, hown, hts⟩ hK hij hA (fun q h z => hap q z h) hE dL_law_803 ⟨(zs35 _ (List.mem_of_getElem? (i := 22) rfl)), (zs1 _ (List.mem_of_getElem? (i := 2) rfl)), (zs36 _ (List.mem_of_getElem? (i := 1) rfl))⟩ (zs35 _ (List.mem_of_getElem? (i := 23) rfl)) (zs36 _ (List.mem_of_getElem? (i := 0) rfl)) yc_0 rfl (by decide +kernel) rfl ⟨by omega, Nat.le_trans (m := 36000) (Nat.le_of_ble_eq_true rfl) hR.2⟩ hf hl.1 (by decide) (kX5_film (xs (i + 1)) σ 5 (by decide)) e1 hP hP2 hS (fun H locs hP hP2 hS => ?_)
  refine W.eq (g2 := F0 m 806 ls [.int _]) rfl ?_
  refine lv_aload_n hx hb dL_law_806 rfl (lv_at hl 1 rfl) ?_
  refine lw_arg (k := 1) F hS hl (by omega) rfl dL_law_807 dL_law_808 dL_law_809 dL_law_810 dL_law_811 ?_
  refine lw_call (Y := YM) (Y2 := YC) (ad := adM) (ad2 := adC) (σ := τ) (τ := σ1) (kc := 0) (M' := mX6_film) (n := 1) (av := [zI (xs (i + 1))]) (d := 74) (mk' := z_i) ⟨hx, hb, hml, hown, hts⟩ hK hij2 hA2 hap hE2 dL_law_812 ⟨(zs36 _ (List.mem_of_getElem? (i := 15) rfl)), (zs1 _ (List.mem_of_getElem? (i := 5) rfl)), (zs36 _ (List.mem_of_getElem? (i := 18) rfl))⟩ (zs36 _ (List.mem_of_getElem? (i := 16) rfl)) (zs36 _ (List.mem_of_getElem? (i := 17) rfl)) ym_0 rfl (by decide +kernel) rfl ⟨by omega, Nat.le_trans (m := 36000) (Nat.le_of_ble_eq_true rfl) hR.2⟩ hf hl.1 (by simp [Value.category]) (kX6_film (xs (i + 1)) τ 74 (by decide)) e2 hP2 hP hS (fun H locs hP2 hP hS => ?_)
  refine W.eq (g2 := F0 m 815 ls [.int _, .int _]) rfl ?_
  exact lv_icmp_eq hx hb dL_law_815 (tgt := 1191) rfl (fun _ => kk _ _ _ H locs hc1 hm1 hw1 hP hP2 hS) (fun h => absurd rfl h)
theorem lw_drawn (F : zLF p s m args c D cy b L xs adC adM) (hR : 1000 ≤ R.frames ∧ 36000 ≤ R.locals) (hf : cells ≤ R.cells ∧ slots ≤ R.slots) (hi : i + 6 ≤ L) (hl : lv_has ls 4 (z_lls adC adM b i)) (hc : cG σ g) (hm : mG τ g) (hw : gW g) (hP : va_P D vwCl (z_ws YC adC cy σ) H) (hP2 : va_P D vwCl (z_ws YM adM cy τ) H) (hS : va_S (fun q => s.heap.size ≤ q) s.heap H locs)
    (kk : ∀ (σ τ : z_Mem) (g : zG) (H : Heap) (locs : List Loc), cG σ g → mG τ g → gW g → va_P D vwCl (z_ws YC adC cy σ) H → va_P D vwCl (z_ws YM adM cy τ) H → va_S (fun q => s.heap.size ≤ q) s.heap H locs → W p l e R s m args below meth c H locs cells slots Q (F0 m 1191 ls [])) : W p l e R s m args below meth c H locs cells slots Q (F0 m 820 ls []) := by
  obtain ⟨hx, hb, hml, hown, hts, hK, hX, hbl, hL, hij, hij2, hA, hA2, hap, hE, hE2⟩ := id F
  obtain ⟨r, g1, hw1, ⟨r1, σ1, e1, h1, hc1⟩, ⟨r2, τ1, e2, h2, hm1⟩⟩ := p_drawn hc hm hw (xs (i + 1)) (xs (i + 2))
  subst h1
  subst h2
  refine lv_aload_n hx hb dL_law_820 rfl (lv_at hl 2 rfl) ?_
  refine lw_arg (k := 1) F hS hl (by omega) rfl dL_law_821 dL_law_822 dL_law_823 dL_law_824 dL_law_825 ?_
  refine lw_arg (k := 2) F hS hl (by omega) rfl dL_law_826 dL_law_827 dL_law_828 dL_law_829 dL_law_830 ?_
  refine lw_call (Y := YC) (Y2 := YM) (ad := adC) (ad2 := adM) (σ := σ) (τ := τ) (kc := 0) (M' := mX5_drawn) (n := 2) (av := [zI (xs (i + 1)), zI (xs (i + 2))]) (d := 5) (mk' := z_i) ⟨hx, hb, hml, hown, hts⟩ hK hij hA (fun q h z => hap q z h) hE dL_law_831 ⟨(zs37 _ (List.mem_of_getElem? (i := 0) rfl)), (zs1 _ (List.mem_of_getElem? (i := 2) rfl)), (zs37 _ (List.mem_of_getElem? (i := 3) rfl))⟩ (zs37 _ (List.mem_of_getElem? (i := 1) rfl)) (zs37 _ (List.mem_of_getElem? (i := 2) rfl)) yc_0 rfl (by decide +kernel) rfl ⟨by omega, Nat.le_trans (m := 36000) (Nat.le_of_ble_eq_true rfl) hR.2⟩ hf hl.1 (by decide) (kX5_drawn (xs (i + 1)) (xs (i + 2)) σ 5 (by decide)) e1 hP hP2 hS (fun H locs hP hP2 hS => ?_)
  refine W.eq (g2 := F0 m 834 ls [.int _]) rfl ?_
  refine lv_aload_n hx hb dL_law_834 rfl (lv_at hl 1 rfl) ?_
  refine lw_arg (k := 1) F hS hl (by omega) rfl dL_law_835 dL_law_836 dL_law_837 dL_law_838 dL_law_839 ?_
  refine lw_arg (k := 2) F hS hl (by omega) rfl dL_law_840 dL_law_841 dL_law_842 dL_law_843 dL_law_844 ?_
  refine lw_call (Y := YM) (Y2 := YC) (ad := adM) (ad2 := adC) (σ := τ) (τ := σ1) (kc := 0) (M' := mX6_drawn) (n := 2) (av := [zI (xs (i + 1)), zI (xs (i + 2))]) (d := 76) (mk' := z_i) ⟨hx, hb, hml, hown, hts⟩ hK hij2 hA2 hap hE2 dL_law_845 ⟨(zs37 _ (List.mem_of_getElem? (i := 9) rfl)), (zs1 _ (List.mem_of_getElem? (i := 5) rfl)), (zs37 _ (List.mem_of_getElem? (i := 12) rfl))⟩ (zs37 _ (List.mem_of_getElem? (i := 10) rfl)) (zs37 _ (List.mem_of_getElem? (i := 11) rfl)) ym_0 rfl (by decide +kernel) rfl ⟨by omega, Nat.le_trans (m := 36000) (Nat.le_of_ble_eq_true rfl) hR.2⟩ hf hl.1 (by simp [Value.category]) (kX6_drawn (xs (i + 1)) (xs (i + 2)) τ 76 (by decide)) e2 hP2 hP hS (fun H locs hP2 hP hS => ?_)
  refine W.eq (g2 := F0 m 848 ls [.int _, .int _]) rfl ?_
  exact lv_icmp_eq hx hb dL_law_848 (tgt := 1191) rfl (fun _ => kk _ _ _ H locs hc1 hm1 hw1 hP hP2 hS) (fun h => absurd rfl h)
theorem lw_chance (F : zLF p s m args c D cy b L xs adC adM) (hR : 1000 ≤ R.frames ∧ 36000 ≤ R.locals) (hf : cells ≤ R.cells ∧ slots ≤ R.slots) (hi : i + 6 ≤ L) (hl : lv_has ls 4 (z_lls adC adM b i)) (hc : cG σ g) (hm : mG τ g) (hw : gW g) (hP : va_P D vwCl (z_ws YC adC cy σ) H) (hP2 : va_P D vwCl (z_ws YM adM cy τ) H) (hS : va_S (fun q => s.heap.size ≤ q) s.heap H locs)
    (kk : ∀ (σ τ : z_Mem) (g : zG) (H : Heap) (locs : List Loc), cG σ g → mG τ g → gW g → va_P D vwCl (z_ws YC adC cy σ) H → va_P D vwCl (z_ws YM adM cy τ) H → va_S (fun q => s.heap.size ≤ q) s.heap H locs → W p l e R s m args below meth c H locs cells slots Q (F0 m 1191 ls [])) : W p l e R s m args below meth c H locs cells slots Q (F0 m 853 ls []) := by
  obtain ⟨hx, hb, hml, hown, hts, hK, hX, hbl, hL, hij, hij2, hA, hA2, hap, hE, hE2⟩ := id F
  obtain ⟨r, g1, hw1, ⟨r1, σ1, e1, h1, hc1⟩, ⟨r2, τ1, e2, h2, hm1⟩⟩ := p_chance hc hm hw (xs (i + 1)) (xs (i + 2)) (xs (i + 3)) (xs (i + 4))
  subst h1
  subst h2
  refine lv_aload_n hx hb dL_law_853 rfl (lv_at hl 2 rfl) ?_
  refine lw_arg (k := 1) F hS hl (by omega) rfl dL_law_854 dL_law_855 dL_law_856 dL_law_857 dL_law_858 ?_
  refine lw_arg (k := 2) F hS hl (by omega) rfl dL_law_859 dL_law_860 dL_law_861 dL_law_862 dL_law_863 ?_
  refine lw_arg (k := 3) F hS hl (by omega) rfl dL_law_864 dL_law_865 dL_law_866 dL_law_867 dL_law_868 ?_
  refine lw_arg (k := 4) F hS hl (by omega) rfl dL_law_869 dL_law_870 dL_law_871 dL_law_872 dL_law_873 ?_
  refine lw_call (Y := YC) (Y2 := YM) (ad := adC) (ad2 := adM) (σ := σ) (τ := τ) (kc := 0) (M' := mX5_chance) (n := 4) (av := [zI (xs (i + 1)), zI (xs (i + 2)), zI (xs (i + 3)), zI (xs (i + 4))]) (d := 5) (mk' := z_l) ⟨hx, hb, hml, hown, hts⟩ hK hij hA (fun q h z => hap q z h) hE dL_law_874 ⟨(zs37 _ (List.mem_of_getElem? (i := 18) rfl)), (zs1 _ (List.mem_of_getElem? (i := 2) rfl)), (zs37 _ (List.mem_of_getElem? (i := 21) rfl))⟩ (zs37 _ (List.mem_of_getElem? (i := 19) rfl)) (zs37 _ (List.mem_of_getElem? (i := 20) rfl)) yc_0 rfl (by decide +kernel) rfl ⟨by omega, Nat.le_trans (m := 36000) (Nat.le_of_ble_eq_true rfl) hR.2⟩ hf hl.1 (by decide) (kX5_chance (xs (i + 1)) (xs (i + 2)) (xs (i + 3)) (xs (i + 4)) σ 5 (by decide)) e1 hP hP2 hS (fun H locs hP hP2 hS => ?_)
  refine W.eq (g2 := F0 m 877 ls [.long _]) rfl ?_
  refine lv_aload_n hx hb dL_law_877 rfl (lv_at hl 1 rfl) ?_
  refine lw_arg (k := 1) F hS hl (by omega) rfl dL_law_878 dL_law_879 dL_law_880 dL_law_881 dL_law_882 ?_
  refine lw_arg (k := 2) F hS hl (by omega) rfl dL_law_883 dL_law_884 dL_law_885 dL_law_886 dL_law_887 ?_
  refine lw_arg (k := 3) F hS hl (by omega) rfl dL_law_888 dL_law_889 dL_law_890 dL_law_891 dL_law_892 ?_
  refine lw_arg (k := 4) F hS hl (by omega) rfl dL_law_893 dL_law_894 dL_law_895 dL_law_896 dL_law_897 ?_
  refine lw_call (Y := YM) (Y2 := YC) (ad := adM) (ad2 := adC) (σ := τ) (τ := σ1) (kc := 0) (M' := mX6_chance) (n := 4) (av := [zI (xs (i + 1)), zI (xs (i + 2)), zI (xs (i + 3)), zI (xs (i + 4))]) (d := 76) (mk' := z_l) ⟨hx, hb, hml, hown, hts⟩ hK hij2 hA2 hap hE2 dL_law_898 ⟨(zs37 _ (List.mem_of_getElem? (i := 22) rfl)), (zs1 _ (List.mem_of_getElem? (i := 5) rfl)), (zs38 _ (List.mem_of_getElem? (i := 1) rfl))⟩ (zs37 _ (List.mem_of_getElem? (i := 23) rfl)) (zs38 _ (List.mem_of_getElem? (i := 0) rfl)) ym_0 rfl (by decide +kernel) rfl ⟨by omega, Nat.le_trans (m := 36000) (Nat.le_of_ble_eq_true rfl) hR.2⟩ hf hl.1 (by simp [Value.category]) (kX6_chance (xs (i + 1)) (xs (i + 2)) (xs (i + 3)) (xs (i + 4)) τ 76 (by decide)) e2 hP2 hP hS (fun H locs hP2 hP hS => ?_)
  refine W.eq (g2 := F0 m 901 ls [.long _, .long _]) rfl ?_
  refine W.lcmp hx hb dL_law_901 ?_
  rw [z_lgself]
  exact lv_if_eq hx hb dL_law_902 (tgt := 1191) rfl (fun _ => kk _ _ _ H locs hc1 hm1 hw1 hP hP2 hS) (fun h => absurd rfl h)
theorem lw_image (F : zLF p s m args c D cy b L xs adC adM) (hR : 1000 ≤ R.frames ∧ 36000 ≤ R.locals) (hf : cells ≤ R.cells ∧ slots ≤ R.slots) (hi : i + 6 ≤ L) (hl : lv_has ls 4 (z_lls adC adM b i)) (hc : cG σ g) (hm : mG τ g) (hw : gW g) (hP : va_P D vwCl (z_ws YC adC cy σ) H) (hP2 : va_P D vwCl (z_ws YM adM cy τ) H) (hS : va_S (fun q => s.heap.size ≤ q) s.heap H locs)
    (kk : ∀ (σ τ : z_Mem) (g : zG) (H : Heap) (locs : List Loc), cG σ g → mG τ g → gW g → va_P D vwCl (z_ws YC adC cy σ) H → va_P D vwCl (z_ws YM adM cy τ) H → va_S (fun q => s.heap.size ≤ q) s.heap H locs → W p l e R s m args below meth c H locs cells slots Q (F0 m 1191 ls [])) : W p l e R s m args below meth c H locs cells slots Q (F0 m 907 ls []) := by
  obtain ⟨hx, hb, hml, hown, hts, hK, hX, hbl, hL, hij, hij2, hA, hA2, hap, hE, hE2⟩ := id F
  obtain ⟨r, g1, hw1, ⟨r1, σ1, e1, h1, hc1⟩, ⟨r2, τ1, e2, h2, hm1⟩⟩ := p_image hc hm hw 
  subst h1
  subst h2
  refine lv_aload_n hx hb dL_law_907 rfl (lv_at hl 2 rfl) ?_
  refine lw_call (Y := YC) (Y2 := YM) (ad := adC) (ad2 := adM) (σ := σ) (τ := τ) (kc := 0) (M' := mX5_image) (n := 0) (av := []) (d := 2) (mk' := z_i) ⟨hx, hb, hml, hown, hts⟩ hK hij hA (fun q h z => hap q z h) hE dL_law_908 ⟨(zs38 _ (List.mem_of_getElem? (i := 2) rfl)), (zs1 _ (List.mem_of_getElem? (i := 2) rfl)), (zs38 _ (List.mem_of_getElem? (i := 5) rfl))⟩ (zs38 _ (List.mem_of_getElem? (i := 3) rfl)) (zs38 _ (List.mem_of_getElem? (i := 4) rfl)) yc_0 rfl (by decide +kernel) rfl ⟨by omega, Nat.le_trans (m := 36000) (Nat.le_of_ble_eq_true rfl) hR.2⟩ hf hl.1 (by decide) (kX5_image  σ 2 (by decide)) e1 hP hP2 hS (fun H locs hP hP2 hS => ?_)
  refine W.eq (g2 := F0 m 911 ls [.int _]) rfl ?_
  refine lv_aload_n hx hb dL_law_911 rfl (lv_at hl 1 rfl) ?_
  refine lw_call (Y := YM) (Y2 := YC) (ad := adM) (ad2 := adC) (σ := τ) (τ := σ1) (kc := 0) (M' := mX6_image) (n := 0) (av := []) (d := 1) (mk' := z_i) ⟨hx, hb, hml, hown, hts⟩ hK hij2 hA2 hap hE2 dL_law_912 ⟨(zs38 _ (List.mem_of_getElem? (i := 7) rfl)), (zs1 _ (List.mem_of_getElem? (i := 5) rfl)), (zs38 _ (List.mem_of_getElem? (i := 10) rfl))⟩ (zs38 _ (List.mem_of_getElem? (i := 8) rfl)) (zs38 _ (List.mem_of_getElem? (i := 9) rfl)) ym_0 rfl (by decide +kernel) rfl ⟨by omega, Nat.le_trans (m := 36000) (Nat.le_of_ble_eq_true rfl) hR.2⟩ hf hl.1 (by simp [Value.category]) (kX6_image  τ 1 (by decide)) e2 hP2 hP hS (fun H locs hP2 hP hS => ?_)
  refine W.eq (g2 := F0 m 915 ls [.int _, .int _]) rfl ?_
  exact lv_icmp_eq hx hb dL_law_915 (tgt := 1191) rfl (fun _ => kk _ _ _ H locs hc1 hm1 hw1 hP hP2 hS) (fun h => absurd rfl h)
theorem lw_back (F : zLF p s m args c D cy b L xs adC adM) (hR : 1000 ≤ R.frames ∧ 36000 ≤ R.locals) (hf : cells ≤ R.cells ∧ slots ≤ R.slots) (hi : i + 6 ≤ L) (hl : lv_has ls 4 (z_lls adC adM b i)) (hc : cG σ g) (hm : mG τ g) (hw : gW g) (hP : va_P D vwCl (z_ws YC adC cy σ) H) (hP2 : va_P D vwCl (z_ws YM adM cy τ) H) (hS : va_S (fun q => s.heap.size ≤ q) s.heap H locs)
    (kk : ∀ (σ τ : z_Mem) (g : zG) (H : Heap) (locs : List Loc), cG σ g → mG τ g → gW g → va_P D vwCl (z_ws YC adC cy σ) H → va_P D vwCl (z_ws YM adM cy τ) H → va_S (fun q => s.heap.size ≤ q) s.heap H locs → W p l e R s m args below meth c H locs cells slots Q (F0 m 1191 ls [])) : W p l e R s m args below meth c H locs cells slots Q (F0 m 920 ls []) := by
  obtain ⟨hx, hb, hml, hown, hts, hK, hX, hbl, hL, hij, hij2, hA, hA2, hap, hE, hE2⟩ := id F
  obtain ⟨r, g1, hw1, ⟨r1, σ1, e1, h1, hc1⟩, ⟨r2, τ1, e2, h2, hm1⟩⟩ := p_back hc hm hw 
  subst h1
  subst h2
  refine lv_aload_n hx hb dL_law_920 rfl (lv_at hl 2 rfl) ?_
  refine lw_call (Y := YC) (Y2 := YM) (ad := adC) (ad2 := adM) (σ := σ) (τ := τ) (kc := 0) (M' := mX5_back) (n := 0) (av := []) (d := 2) (mk' := z_i) ⟨hx, hb, hml, hown, hts⟩ hK hij hA (fun q h z => hap q z h) hE dL_law_921 ⟨(zs38 _ (List.mem_of_getElem? (i := 15) rfl)), (zs1 _ (List.mem_of_getElem? (i := 2) rfl)), (zs38 _ (List.mem_of_getElem? (i := 18) rfl))⟩ (zs38 _ (List.mem_of_getElem? (i := 16) rfl)) (zs38 _ (List.mem_of_getElem? (i := 17) rfl)) yc_0 rfl (by decide +kernel) rfl ⟨by omega, Nat.le_trans (m := 36000) (Nat.le_of_ble_eq_true rfl) hR.2⟩ hf hl.1 (by decide) (kX5_back  σ 2 (by decide)) e1 hP hP2 hS (fun H locs hP hP2 hS => ?_)
  refine W.eq (g2 := F0 m 924 ls [.int _]) rfl ?_
  refine lv_aload_n hx hb dL_law_924 rfl (lv_at hl 1 rfl) ?_
  refine lw_call (Y := YM) (Y2 := YC) (ad := adM) (ad2 := adC) (σ := τ) (τ := σ1) (kc := 0) (M' := mX6_back) (n := 0) (av := []) (d := 1) (mk' := z_i) ⟨hx, hb, hml, hown, hts⟩ hK hij2 hA2 hap hE2 dL_law_925 ⟨(zs38 _ (List.mem_of_getElem? (i := 19) rfl)), (zs1 _ (List.mem_of_getElem? (i := 5) rfl)), (zs38 _ (List.mem_of_getElem? (i := 22) rfl))⟩ (zs38 _ (List.mem_of_getElem? (i := 20) rfl)) (zs38 _ (List.mem_of_getElem? (i := 21) rfl)) ym_0 rfl (by decide +kernel) rfl ⟨by omega, Nat.le_trans (m := 36000) (Nat.le_of_ble_eq_true rfl) hR.2⟩ hf hl.1 (by simp [Value.category]) (kX6_back  τ 1 (by decide)) e2 hP2 hP hS (fun H locs hP2 hP hS => ?_)
  refine W.eq (g2 := F0 m 928 ls [.int _, .int _]) rfl ?_
  exact lv_icmp_eq hx hb dL_law_928 (tgt := 1191) rfl (fun _ => kk _ _ _ H locs hc1 hm1 hw1 hP hP2 hS) (fun h => absurd rfl h)
theorem lw_count (F : zLF p s m args c D cy b L xs adC adM) (hR : 1000 ≤ R.frames ∧ 36000 ≤ R.locals) (hf : cells ≤ R.cells ∧ slots ≤ R.slots) (hi : i + 6 ≤ L) (hl : lv_has ls 4 (z_lls adC adM b i)) (hc : cG σ g) (hm : mG τ g) (hw : gW g) (hP : va_P D vwCl (z_ws YC adC cy σ) H) (hP2 : va_P D vwCl (z_ws YM adM cy τ) H) (hS : va_S (fun q => s.heap.size ≤ q) s.heap H locs)
    (kk : ∀ (σ τ : z_Mem) (g : zG) (H : Heap) (locs : List Loc), cG σ g → mG τ g → gW g → va_P D vwCl (z_ws YC adC cy σ) H → va_P D vwCl (z_ws YM adM cy τ) H → va_S (fun q => s.heap.size ≤ q) s.heap H locs → W p l e R s m args below meth c H locs cells slots Q (F0 m 1191 ls [])) : W p l e R s m args below meth c H locs cells slots Q (F0 m 933 ls []) := by
  obtain ⟨hx, hb, hml, hown, hts, hK, hX, hbl, hL, hij, hij2, hA, hA2, hap, hE, hE2⟩ := id F
  obtain ⟨r, g1, hw1, ⟨r1, σ1, e1, h1, hc1⟩, ⟨r2, τ1, e2, h2, hm1⟩⟩ := p_count hc hm hw (xs (i + 1))
  subst h1
  subst h2
  refine lv_aload_n hx hb dL_law_933 rfl (lv_at hl 2 rfl) ?_
  refine lw_arg (k := 1) F hS hl (by omega) rfl dL_law_934 dL_law_935 dL_law_936 dL_law_937 dL_law_938 ?_
  refine lw_call (Y := YC) (Y2 := YM) (ad := adC) (ad2 := adM) (σ := σ) (τ := τ) (kc := 0) (M' := mX5_count) (n := 1) (av := [zI (xs (i + 1))]) (d := 1) (mk' := z_i) ⟨hx, hb, hml, hown, hts⟩ hK hij hA (fun q h z => hap q z h) hE dL_law_939 ⟨(zs38 _ (List.mem_of_getElem? (i := 23) rfl)), (zs1 _ (List.mem_of_getElem? (i := 2) rfl)), (zs39 _ (List.mem_of_getElem? (i := 2) rfl))⟩ (zs39 _ (List.mem_of_getElem? (i := 0) rfl)) (zs39 _ (List.mem_of_getElem? (i := 1) rfl)) yc_0 rfl (by decide +kernel) rfl ⟨by omega, Nat.le_trans (m := 36000) (Nat.le_of_ble_eq_true rfl) hR.2⟩ hf hl.1 (by decide) (kX5_count (xs (i + 1)) σ 1 (by decide)) e1 hP hP2 hS (fun H locs hP hP2 hS => ?_)
  refine W.eq (g2 := F0 m 942 ls [.int _]) rfl ?_
  refine lv_aload_n hx hb dL_law_942 rfl (lv_at hl 1 rfl) ?_
  refine lw_arg (k := 1) F hS hl (by omega) rfl dL_law_943 dL_law_944 dL_law_945 dL_law_946 dL_law_947 ?_
  refine lw_call (Y := YM) (Y2 := YC) (ad := adM) (ad2 := adC) (σ := τ) (τ := σ1) (kc := 0) (M' := mX6_count) (n := 1) (av := [zI (xs (i + 1))]) (d := 2) (mk' := z_i) ⟨hx, hb, hml, hown, hts⟩ hK hij2 hA2 hap hE2 dL_law_948 ⟨(zs39 _ (List.mem_of_getElem? (i := 3) rfl)), (zs1 _ (List.mem_of_getElem? (i := 5) rfl)), (zs39 _ (List.mem_of_getElem? (i := 6) rfl))⟩ (zs39 _ (List.mem_of_getElem? (i := 4) rfl)) (zs39 _ (List.mem_of_getElem? (i := 5) rfl)) ym_0 rfl (by decide +kernel) rfl ⟨by omega, Nat.le_trans (m := 36000) (Nat.le_of_ble_eq_true rfl) hR.2⟩ hf hl.1 (by simp [Value.category]) (kX6_count (xs (i + 1)) τ 2 (by decide)) e2 hP2 hP hS (fun H locs hP2 hP hS => ?_)
  refine W.eq (g2 := F0 m 951 ls [.int _, .int _]) rfl ?_
  exact lv_icmp_eq hx hb dL_law_951 (tgt := 1191) rfl (fun _ => kk _ _ _ H locs hc1 hm1 hw1 hP hP2 hS) (fun h => absurd rfl h)
theorem lw_sheet (F : zLF p s m args c D cy b L xs adC adM) (hR : 1000 ≤ R.frames ∧ 36000 ≤ R.locals) (hf : cells ≤ R.cells ∧ slots ≤ R.slots) (hi : i + 6 ≤ L) (hl : lv_has ls 4 (z_lls adC adM b i)) (hc : cG σ g) (hm : mG τ g) (hw : gW g) (hP : va_P D vwCl (z_ws YC adC cy σ) H) (hP2 : va_P D vwCl (z_ws YM adM cy τ) H) (hS : va_S (fun q => s.heap.size ≤ q) s.heap H locs)
    (kk : ∀ (σ τ : z_Mem) (g : zG) (H : Heap) (locs : List Loc), cG σ g → mG τ g → gW g → va_P D vwCl (z_ws YC adC cy σ) H → va_P D vwCl (z_ws YM adM cy τ) H → va_S (fun q => s.heap.size ≤ q) s.heap H locs → W p l e R s m args below meth c H locs cells slots Q (F0 m 1191 ls [])) : W p l e R s m args below meth c H locs cells slots Q (F0 m 956 ls []) := by
  obtain ⟨hx, hb, hml, hown, hts, hK, hX, hbl, hL, hij, hij2, hA, hA2, hap, hE, hE2⟩ := id F
  obtain ⟨r, g1, hw1, ⟨r1, σ1, e1, h1, hc1⟩, ⟨r2, τ1, e2, h2, hm1⟩⟩ := p_sheet hc hm hw (xs (i + 1)) (xs (i + 2)) (xs (i + 3))
  subst h1
  subst h2
  refine lv_aload_n hx hb dL_law_956 rfl (lv_at hl 2 rfl) ?_
  refine lw_arg (k := 1) F hS hl (by omega) rfl dL_law_957 dL_law_958 dL_law_959 dL_law_960 dL_law_961 ?_
  refine lw_arg (k := 2) F hS hl (by omega) rfl dL_law_962 dL_law_963 dL_law_964 dL_law_965 dL_law_966 ?_
  refine lw_arg (k := 3) F hS hl (by omega) rfl dL_law_967 dL_law_968 dL_law_969 dL_law_970 dL_law_971 ?_
  refine lw_call (Y := YC) (Y2 := YM) (ad := adC) (ad2 := adM) (σ := σ) (τ := τ) (kc := 0) (M' := mX5_sheet) (n := 3) (av := [zI (xs (i + 1)), zI (xs (i + 2)), zI (xs (i + 3))]) (d := 2) (mk' := z_i) ⟨hx, hb, hml, hown, hts⟩ hK hij hA (fun q h z => hap q z h) hE dL_law_972 ⟨(zs39 _ (List.mem_of_getElem? (i := 7) rfl)), (zs1 _ (List.mem_of_getElem? (i := 2) rfl)), (zs39 _ (List.mem_of_getElem? (i := 10) rfl))⟩ (zs39 _ (List.mem_of_getElem? (i := 8) rfl)) (zs39 _ (List.mem_of_getElem? (i := 9) rfl)) yc_0 rfl (by decide +kernel) rfl ⟨by omega, Nat.le_trans (m := 36000) (Nat.le_of_ble_eq_true rfl) hR.2⟩ hf hl.1 (by decide) (kX5_sheet (xs (i + 1)) (xs (i + 2)) (xs (i + 3)) σ 2 (by decide)) e1 hP hP2 hS (fun H locs hP hP2 hS => ?_)
  refine W.eq (g2 := F0 m 975 ls [.int _]) rfl ?_
  refine lv_aload_n hx hb dL_law_975 rfl (lv_at hl 1 rfl) ?_
  refine lw_arg (k := 1) F hS hl (by omega) rfl dL_law_976 dL_law_977 dL_law_978 dL_law_979 dL_law_980 ?_
  refine lw_arg (k := 2) F hS hl (by omega) rfl dL_law_981 dL_law_982 dL_law_983 dL_law_984 dL_law_985 ?_
  refine lw_arg (k := 3) F hS hl (by omega) rfl dL_law_986 dL_law_987 dL_law_988 dL_law_989 dL_law_990 ?_
  refine lw_call (Y := YM) (Y2 := YC) (ad := adM) (ad2 := adC) (σ := τ) (τ := σ1) (kc := 0) (M' := mX6_sheet) (n := 3) (av := [zI (xs (i + 1)), zI (xs (i + 2)), zI (xs (i + 3))]) (d := 3) (mk' := z_i) ⟨hx, hb, hml, hown, hts⟩ hK hij2 hA2 hap hE2 dL_law_991 ⟨(zs39 _ (List.mem_of_getElem? (i := 11) rfl)), (zs1 _ (List.mem_of_getElem? (i := 5) rfl)), (zs36 _ (List.mem_of_getElem? (i := 22) rfl))⟩ (zs36 _ (List.mem_of_getElem? (i := 20) rfl)) (zs36 _ (List.mem_of_getElem? (i := 21) rfl)) ym_0 rfl (by decide +kernel) rfl ⟨by omega, Nat.le_trans (m := 36000) (Nat.le_of_ble_eq_true rfl) hR.2⟩ hf hl.1 (by simp [Value.category]) (kX6_sheet (xs (i + 1)) (xs (i + 2)) (xs (i + 3)) τ 3 (by decide)) e2 hP2 hP hS (fun H locs hP2 hP hS => ?_)
  refine W.eq (g2 := F0 m 994 ls [.int _, .int _]) rfl ?_
  exact lv_icmp_eq hx hb dL_law_994 (tgt := 1191) rfl (fun _ => kk _ _ _ H locs hc1 hm1 hw1 hP hP2 hS) (fun h => absurd rfl h)
theorem lw_cell (F : zLF p s m args c D cy b L xs adC adM) (hR : 1000 ≤ R.frames ∧ 36000 ≤ R.locals) (hf : cells ≤ R.cells ∧ slots ≤ R.slots) (hi : i + 6 ≤ L) (hl : lv_has ls 4 (z_lls adC adM b i)) (hc : cG σ g) (hm : mG τ g) (hw : gW g) (hP : va_P D vwCl (z_ws YC adC cy σ) H) (hP2 : va_P D vwCl (z_ws YM adM cy τ) H) (hS : va_S (fun q => s.heap.size ≤ q) s.heap H locs)
    (kk : ∀ (σ τ : z_Mem) (g : zG) (H : Heap) (locs : List Loc), cG σ g → mG τ g → gW g → va_P D vwCl (z_ws YC adC cy σ) H → va_P D vwCl (z_ws YM adM cy τ) H → va_S (fun q => s.heap.size ≤ q) s.heap H locs → W p l e R s m args below meth c H locs cells slots Q (F0 m 1191 ls [])) : W p l e R s m args below meth c H locs cells slots Q (F0 m 999 ls []) := by
  obtain ⟨hx, hb, hml, hown, hts, hK, hX, hbl, hL, hij, hij2, hA, hA2, hap, hE, hE2⟩ := id F
  obtain ⟨r, g1, hw1, ⟨r1, σ1, e1, h1, hc1⟩, ⟨r2, τ1, e2, h2, hm1⟩⟩ := p_cell hc hm hw (xs (i + 1)) (xs (i + 2)) (xs (i + 3))
  subst h1
  subst h2
  refine lv_aload_n hx hb dL_law_999 rfl (lv_at hl 2 rfl) ?_
  refine lw_arg (k := 1) F hS hl (by omega) rfl dL_law_1000 dL_law_1001 dL_law_1002 dL_law_1003 dL_law_1004 ?_
  refine lw_arg (k := 2) F hS hl (by omega) rfl dL_law_1005 dL_law_1006 dL_law_1007 dL_law_1008 dL_law_1009 ?_
  refine lw_arg (k := 3) F hS hl (by omega) rfl dL_law_1010 dL_law_1011 dL_law_1012 dL_law_1013 dL_law_1014 ?_
  refine lw_call (Y := YC) (Y2 := YM) (ad := adC) (ad2 := adM) (σ := σ) (τ := τ) (kc := 0) (M' := mX5_cell) (n := 3) (av := [zI (xs (i + 1)), zI (xs (i + 2)), zI (xs (i + 3))]) (d := 3) (mk' := z_i) ⟨hx, hb, hml, hown, hts⟩ hK hij hA (fun q h z => hap q z h) hE dL_law_1015 ⟨(zs39 _ (List.mem_of_getElem? (i := 12) rfl)), (zs1 _ (List.mem_of_getElem? (i := 2) rfl)), (zs39 _ (List.mem_of_getElem? (i := 15) rfl))⟩ (zs39 _ (List.mem_of_getElem? (i := 13) rfl)) (zs39 _ (List.mem_of_getElem? (i := 14) rfl)) yc_0 rfl (by decide +kernel) rfl ⟨by omega, Nat.le_trans (m := 36000) (Nat.le_of_ble_eq_true rfl) hR.2⟩ hf hl.1 (by decide) (kX5_cell (xs (i + 1)) (xs (i + 2)) (xs (i + 3)) σ 3 (by decide)) e1 hP hP2 hS (fun H locs hP hP2 hS => ?_)
  refine W.eq (g2 := F0 m 1018 ls [.int _]) rfl ?_
  refine lv_aload_n hx hb dL_law_1018 rfl (lv_at hl 1 rfl) ?_
  refine lw_arg (k := 1) F hS hl (by omega) rfl dL_law_1019 dL_law_1020 dL_law_1021 dL_law_1022 dL_law_1023 ?_
  refine lw_arg (k := 2) F hS hl (by omega) rfl dL_law_1024 dL_law_1025 dL_law_1026 dL_law_1027 dL_law_1028 ?_
  refine lw_arg (k := 3) F hS hl (by omega) rfl dL_law_1029 dL_law_1030 dL_law_1031 dL_law_1032 dL_law_1033 ?_
  refine lw_call (Y := YM) (Y2 := YC) (ad := adM) (ad2 := adC) (σ := τ) (τ := σ1) (kc := 0) (M' := mX6_cell) (n := 3) (av := [zI (xs (i + 1)), zI (xs (i + 2)), zI (xs (i + 3))]) (d := 3) (mk' := z_i) ⟨hx, hb, hml, hown, hts⟩ hK hij2 hA2 hap hE2 dL_law_1034 ⟨(zs39 _ (List.mem_of_getElem? (i := 17) rfl)), (zs1 _ (List.mem_of_getElem? (i := 5) rfl)), (zs39 _ (List.mem_of_getElem? (i := 20) rfl))⟩ (zs39 _ (List.mem_of_getElem? (i := 18) rfl)) (zs39 _ (List.mem_of_getElem? (i := 19) rfl)) ym_0 rfl (by decide +kernel) rfl ⟨by omega, Nat.le_trans (m := 36000) (Nat.le_of_ble_eq_true rfl) hR.2⟩ hf hl.1 (by simp [Value.category]) (kX6_cell (xs (i + 1)) (xs (i + 2)) (xs (i + 3)) τ 3 (by decide)) e2 hP2 hP hS (fun H locs hP2 hP hS => ?_)
  refine W.eq (g2 := F0 m 1037 ls [.int _, .int _]) rfl ?_
  exact lv_icmp_eq hx hb dL_law_1037 (tgt := 1191) rfl (fun _ => kk _ _ _ H locs hc1 hm1 hw1 hP hP2 hS) (fun h => absurd rfl h)
theorem lw_copy (F : zLF p s m args c D cy b L xs adC adM) (hR : 1000 ≤ R.frames ∧ 36000 ≤ R.locals) (hf : cells ≤ R.cells ∧ slots ≤ R.slots) (hi : i + 6 ≤ L) (hl : lv_has ls 4 (z_lls adC adM b i)) (hc : cG σ g) (hm : mG τ g) (hw : gW g) (hP : va_P D vwCl (z_ws YC adC cy σ) H) (hP2 : va_P D vwCl (z_ws YM adM cy τ) H) (hS : va_S (fun q => s.heap.size ≤ q) s.heap H locs)
    (kk : ∀ (σ τ : z_Mem) (g : zG) (H : Heap) (locs : List Loc), cG σ g → mG τ g → gW g → va_P D vwCl (z_ws YC adC cy σ) H → va_P D vwCl (z_ws YM adM cy τ) H → va_S (fun q => s.heap.size ≤ q) s.heap H locs → W p l e R s m args below meth c H locs cells slots Q (F0 m 1191 ls [])) : W p l e R s m args below meth c H locs cells slots Q (F0 m 1042 ls []) := by
  obtain ⟨hx, hb, hml, hown, hts, hK, hX, hbl, hL, hij, hij2, hA, hA2, hap, hE, hE2⟩ := id F
  obtain ⟨r, g1, hw1, ⟨r1, σ1, e1, h1, hc1⟩, ⟨r2, τ1, e2, h2, hm1⟩⟩ := p_copy hc hm hw (xs (i + 1)) (xs (i + 2)) (xs (i + 3)) (xs (i + 4)) (xs (i + 5))
  subst h1
  subst h2
  refine lv_aload_n hx hb dL_law_1042 rfl (lv_at hl 2 rfl) ?_
  refine lw_arg (k := 1) F hS hl (by omega) rfl dL_law_1043 dL_law_1044 dL_law_1045 dL_law_1046 dL_law_1047 ?_
  refine lw_arg (k := 2) F hS hl (by omega) rfl dL_law_1048 dL_law_1049 dL_law_1050 dL_law_1051 dL_law_1052 ?_
  refine lw_arg (k := 3) F hS hl (by omega) rfl dL_law_1053 dL_law_1054 dL_law_1055 dL_law_1056 dL_law_1057 ?_
  refine lw_arg (k := 4) F hS hl (by omega) rfl dL_law_1058 dL_law_1059 dL_law_1060 dL_law_1061 dL_law_1062 ?_
  refine lw_arg (k := 5) F hS hl (by omega) rfl dL_law_1063 dL_law_1064 dL_law_1065 dL_law_1066 dL_law_1067 ?_
  refine lw_call (Y := YC) (Y2 := YM) (ad := adC) (ad2 := adM) (σ := σ) (τ := τ) (kc := 0) (M' := mX5_copy) (n := 5) (av := [zI (xs (i + 1)), zI (xs (i + 2)), zI (xs (i + 3)), zI (xs (i + 4)), zI (xs (i + 5))]) (d := 2) (mk' := z_i) ⟨hx, hb, hml, hown, hts⟩ hK hij hA (fun q h z => hap q z h) hE dL_law_1068 ⟨(zs39 _ (List.mem_of_getElem? (i := 21) rfl)), (zs1 _ (List.mem_of_getElem? (i := 2) rfl)), (zs40 _ (List.mem_of_getElem? (i := 0) rfl))⟩ (zs39 _ (List.mem_of_getElem? (i := 22) rfl)) (zs39 _ (List.mem_of_getElem? (i := 23) rfl)) yc_0 rfl (by decide +kernel) rfl ⟨by omega, Nat.le_trans (m := 36000) (Nat.le_of_ble_eq_true rfl) hR.2⟩ hf hl.1 (by decide) (kX5_copy (xs (i + 1)) (xs (i + 2)) (xs (i + 3)) (xs (i + 4)) (xs (i + 5)) σ 2 (by decide)) e1 hP hP2 hS (fun H locs hP hP2 hS => ?_)
  refine W.eq (g2 := F0 m 1071 ls [.int _]) rfl ?_
  refine lv_aload_n hx hb dL_law_1071 rfl (lv_at hl 1 rfl) ?_
  refine lw_arg (k := 1) F hS hl (by omega) rfl dL_law_1072 dL_law_1073 dL_law_1074 dL_law_1075 dL_law_1076 ?_
  refine lw_arg (k := 2) F hS hl (by omega) rfl dL_law_1077 dL_law_1078 dL_law_1079 dL_law_1080 dL_law_1081 ?_
  refine lw_arg (k := 3) F hS hl (by omega) rfl dL_law_1082 dL_law_1083 dL_law_1084 dL_law_1085 dL_law_1086 ?_
  refine lw_arg (k := 4) F hS hl (by omega) rfl dL_law_1087 dL_law_1088 dL_law_1089 dL_law_1090 dL_law_1091 ?_
  refine lw_arg (k := 5) F hS hl (by omega) rfl dL_law_1092 dL_law_1093 dL_law_1094 dL_law_1095 dL_law_1096 ?_
  refine lw_call (Y := YM) (Y2 := YC) (ad := adM) (ad2 := adC) (σ := τ) (τ := σ1) (kc := 0) (M' := mX6_copy) (n := 5) (av := [zI (xs (i + 1)), zI (xs (i + 2)), zI (xs (i + 3)), zI (xs (i + 4)), zI (xs (i + 5))]) (d := 3) (mk' := z_i) ⟨hx, hb, hml, hown, hts⟩ hK hij2 hA2 hap hE2 dL_law_1097 ⟨(zs40 _ (List.mem_of_getElem? (i := 7) rfl)), (zs1 _ (List.mem_of_getElem? (i := 5) rfl)), (zs40 _ (List.mem_of_getElem? (i := 10) rfl))⟩ (zs40 _ (List.mem_of_getElem? (i := 8) rfl)) (zs40 _ (List.mem_of_getElem? (i := 9) rfl)) ym_0 rfl (by decide +kernel) rfl ⟨by omega, Nat.le_trans (m := 36000) (Nat.le_of_ble_eq_true rfl) hR.2⟩ hf hl.1 (by simp [Value.category]) (kX6_copy (xs (i + 1)) (xs (i + 2)) (xs (i + 3)) (xs (i + 4)) (xs (i + 5)) τ 3 (by decide)) e2 hP2 hP hS (fun H locs hP2 hP hS => ?_)
  refine W.eq (g2 := F0 m 1100 ls [.int _, .int _]) rfl ?_
  exact lv_icmp_eq hx hb dL_law_1100 (tgt := 1191) rfl (fun _ => kk _ _ _ H locs hc1 hm1 hw1 hP hP2 hS) (fun h => absurd rfl h)
theorem lw_chain (F : zLF p s m args c D cy b L xs adC adM) (hR : 1000 ≤ R.frames ∧ 36000 ≤ R.locals) (hf : cells ≤ R.cells ∧ slots ≤ R.slots) (hi : i + 6 ≤ L) (hl : lv_has ls 4 (z_lls adC adM b i)) (hc : cG σ g) (hm : mG τ g) (hw : gW g) (hP : va_P D vwCl (z_ws YC adC cy σ) H) (hP2 : va_P D vwCl (z_ws YM adM cy τ) H) (hS : va_S (fun q => s.heap.size ≤ q) s.heap H locs)
    (kk : ∀ (σ τ : z_Mem) (g : zG) (H : Heap) (locs : List Loc), cG σ g → mG τ g → gW g → va_P D vwCl (z_ws YC adC cy σ) H → va_P D vwCl (z_ws YM adM cy τ) H → va_S (fun q => s.heap.size ≤ q) s.heap H locs → W p l e R s m args below meth c H locs cells slots Q (F0 m 1191 ls [])) : W p l e R s m args below meth c H locs cells slots Q (F0 m 1105 ls []) := by
  obtain ⟨hx, hb, hml, hown, hts, hK, hX, hbl, hL, hij, hij2, hA, hA2, hap, hE, hE2⟩ := id F
  obtain ⟨r, g1, hw1, ⟨r1, σ1, e1, h1, hc1⟩, ⟨r2, τ1, e2, h2, hm1⟩⟩ := p_chain hc hm hw (xs (i + 1)) (xs (i + 2)) (xs (i + 3)) (xs (i + 4))
  subst h1
  subst h2
  refine lv_aload_n hx hb dL_law_1105 rfl (lv_at hl 2 rfl) ?_
  refine lw_arg (k := 1) F hS hl (by omega) rfl dL_law_1106 dL_law_1107 dL_law_1108 dL_law_1109 dL_law_1110 ?_
  refine lw_arg (k := 2) F hS hl (by omega) rfl dL_law_1111 dL_law_1112 dL_law_1113 dL_law_1114 dL_law_1115 ?_
  refine lw_arg (k := 3) F hS hl (by omega) rfl dL_law_1116 dL_law_1117 dL_law_1118 dL_law_1119 dL_law_1120 ?_
  refine lw_arg (k := 4) F hS hl (by omega) rfl dL_law_1121 dL_law_1122 dL_law_1123 dL_law_1124 dL_law_1125 ?_
  refine lw_call (Y := YC) (Y2 := YM) (ad := adC) (ad2 := adM) (σ := σ) (τ := τ) (kc := 0) (M' := mX5_chain) (n := 4) (av := [zI (xs (i + 1)), zI (xs (i + 2)), zI (xs (i + 3)), zI (xs (i + 4))]) (d := 3) (mk' := z_i) ⟨hx, hb, hml, hown, hts⟩ hK hij hA (fun q h z => hap q z h) hE dL_law_1126 ⟨(zs40 _ (List.mem_of_getElem? (i := 11) rfl)), (zs1 _ (List.mem_of_getElem? (i := 2) rfl)), (zs40 _ (List.mem_of_getElem? (i := 14) rfl))⟩ (zs40 _ (List.mem_of_getElem? (i := 12) rfl)) (zs40 _ (List.mem_of_getElem? (i := 13) rfl)) yc_0 rfl (by decide +kernel) rfl ⟨by omega, Nat.le_trans (m := 36000) (Nat.le_of_ble_eq_true rfl) hR.2⟩ hf hl.1 (by decide) (kX5_chain (xs (i + 1)) (xs (i + 2)) (xs (i + 3)) (xs (i + 4)) σ 3 (by decide)) e1 hP hP2 hS (fun H locs hP hP2 hS => ?_)
  refine W.eq (g2 := F0 m 1129 ls [.int _]) rfl ?_
  refine lv_aload_n hx hb dL_law_1129 rfl (lv_at hl 1 rfl) ?_
  refine lw_arg (k := 1) F hS hl (by omega) rfl dL_law_1130 dL_law_1131 dL_law_1132 dL_law_1133 dL_law_1134 ?_
  refine lw_arg (k := 2) F hS hl (by omega) rfl dL_law_1135 dL_law_1136 dL_law_1137 dL_law_1138 dL_law_1139 ?_
  refine lw_arg (k := 3) F hS hl (by omega) rfl dL_law_1140 dL_law_1141 dL_law_1142 dL_law_1143 dL_law_1144 ?_
  refine lw_arg (k := 4) F hS hl (by omega) rfl dL_law_1145 dL_law_1146 dL_law_1147 dL_law_1148 dL_law_1149 ?_
  refine lw_call (Y := YM) (Y2 := YC) (ad := adM) (ad2 := adC) (σ := τ) (τ := σ1) (kc := 0) (M' := mX6_chain) (n := 4) (av := [zI (xs (i + 1)), zI (xs (i + 2)), zI (xs (i + 3)), zI (xs (i + 4))]) (d := 3) (mk' := z_i) ⟨hx, hb, hml, hown, hts⟩ hK hij2 hA2 hap hE2 dL_law_1150 ⟨(zs40 _ (List.mem_of_getElem? (i := 15) rfl)), (zs1 _ (List.mem_of_getElem? (i := 5) rfl)), (zs40 _ (List.mem_of_getElem? (i := 18) rfl))⟩ (zs40 _ (List.mem_of_getElem? (i := 16) rfl)) (zs40 _ (List.mem_of_getElem? (i := 17) rfl)) ym_0 rfl (by decide +kernel) rfl ⟨by omega, Nat.le_trans (m := 36000) (Nat.le_of_ble_eq_true rfl) hR.2⟩ hf hl.1 (by simp [Value.category]) (kX6_chain (xs (i + 1)) (xs (i + 2)) (xs (i + 3)) (xs (i + 4)) τ 3 (by decide)) e2 hP2 hP hS (fun H locs hP2 hP hS => ?_)
  refine W.eq (g2 := F0 m 1153 ls [.int _, .int _]) rfl ?_
  exact lv_icmp_eq hx hb dL_law_1153 (tgt := 1191) rfl (fun _ => kk _ _ _ H locs hc1 hm1 hw1 hP hP2 hS) (fun h => absurd rfl h)
theorem lw_taken (F : zLF p s m args c D cy b L xs adC adM) (hR : 1000 ≤ R.frames ∧ 36000 ≤ R.locals) (hf : cells ≤ R.cells ∧ slots ≤ R.slots) (hi : i + 6 ≤ L) (hl : lv_has ls 4 (z_lls adC adM b i)) (hc : cG σ g) (hm : mG τ g) (hw : gW g) (hP : va_P D vwCl (z_ws YC adC cy σ) H) (hP2 : va_P D vwCl (z_ws YM adM cy τ) H) (hS : va_S (fun q => s.heap.size ≤ q) s.heap H locs)
    (kk : ∀ (σ τ : z_Mem) (g : zG) (H : Heap) (locs : List Loc), cG σ g → mG τ g → gW g → va_P D vwCl (z_ws YC adC cy σ) H → va_P D vwCl (z_ws YM adM cy τ) H → va_S (fun q => s.heap.size ≤ q) s.heap H locs → W p l e R s m args below meth c H locs cells slots Q (F0 m 1191 ls [])) : W p l e R s m args below meth c H locs cells slots Q (F0 m 1158 ls []) := by
  obtain ⟨hx, hb, hml, hown, hts, hK, hX, hbl, hL, hij, hij2, hA, hA2, hap, hE, hE2⟩ := id F
  obtain ⟨r, g1, hw1, ⟨r1, σ1, e1, h1, hc1⟩, ⟨r2, τ1, e2, h2, hm1⟩⟩ := p_taken hc hm hw (xs (i + 1)) (xs (i + 2))
  subst h1
  subst h2
  refine lv_aload_n hx hb dL_law_1158 rfl (lv_at hl 2 rfl) ?_
  refine lw_arg (k := 1) F hS hl (by omega) rfl dL_law_1159 dL_law_1160 dL_law_1161 dL_law_1162 dL_law_1163 ?_
  refine lw_arg (k := 2) F hS hl (by omega) rfl dL_law_1164 dL_law_1165 dL_law_1166 dL_law_1167 dL_law_1168 ?_
  refine lw_call (Y := YC) (Y2 := YM) (ad := adC) (ad2 := adM) (σ := σ) (τ := τ) (kc := 0) (M' := mX5_taken) (n := 2) (av := [zI (xs (i + 1)), zI (xs (i + 2))]) (d := 3) (mk' := z_i) ⟨hx, hb, hml, hown, hts⟩ hK hij hA (fun q h z => hap q z h) hE dL_law_1169 ⟨(zs40 _ (List.mem_of_getElem? (i := 21) rfl)), (zs1 _ (List.mem_of_getElem? (i := 2) rfl)), (zs41 _ (List.mem_of_getElem? (i := 0) rfl))⟩ (zs40 _ (List.mem_of_getElem? (i := 22) rfl)) (zs40 _ (List.mem_of_getElem? (i := 23) rfl)) yc_0 rfl (by decide +kernel) rfl ⟨by omega, Nat.le_trans (m := 36000) (Nat.le_of_ble_eq_true rfl) hR.2⟩ hf hl.1 (by decide) (kX5_taken (xs (i + 1)) (xs (i + 2)) σ 3 (by decide)) e1 hP hP2 hS (fun H locs hP hP2 hS => ?_)
  refine W.eq (g2 := F0 m 1172 ls [.int _]) rfl ?_
  refine lv_aload_n hx hb dL_law_1172 rfl (lv_at hl 1 rfl) ?_
  refine lw_arg (k := 1) F hS hl (by omega) rfl dL_law_1173 dL_law_1174 dL_law_1175 dL_law_1176 dL_law_1177 ?_
  refine lw_arg (k := 2) F hS hl (by omega) rfl dL_law_1178 dL_law_1179 dL_law_1180 dL_law_1181 dL_law_1182 ?_
  refine lw_call (Y := YM) (Y2 := YC) (ad := adM) (ad2 := adC) (σ := τ) (τ := σ1) (kc := 0) (M' := mX6_taken) (n := 2) (av := [zI (xs (i + 1)), zI (xs (i + 2))]) (d := 3) (mk' := z_i) ⟨hx, hb, hml, hown, hts⟩ hK hij2 hA2 hap hE2 dL_law_1183 ⟨(zs41 _ (List.mem_of_getElem? (i := 2) rfl)), (zs1 _ (List.mem_of_getElem? (i := 5) rfl)), (zs41 _ (List.mem_of_getElem? (i := 5) rfl))⟩ (zs41 _ (List.mem_of_getElem? (i := 3) rfl)) (zs41 _ (List.mem_of_getElem? (i := 4) rfl)) ym_0 rfl (by decide +kernel) rfl ⟨by omega, Nat.le_trans (m := 36000) (Nat.le_of_ble_eq_true rfl) hR.2⟩ hf hl.1 (by simp [Value.category]) (kX6_taken (xs (i + 1)) (xs (i + 2)) τ 3 (by decide)) e2 hP2 hP hS (fun H locs hP2 hP hS => ?_)
  refine W.eq (g2 := F0 m 1186 ls [.int _, .int _]) rfl ?_
  exact lv_icmp_eq hx hb dL_law_1186 (tgt := 1191) rfl (fun _ => kk _ _ _ H locs hc1 hm1 hw1 hP hP2 hS) (fun h => absurd rfl h)
end ZLC
