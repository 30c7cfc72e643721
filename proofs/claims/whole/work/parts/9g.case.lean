/-! the law's cases 11 to 21 -/
section ZLC
variable {p : Program} {l : Launch} {e : Env} {R : Room} {s : State} {m : MethodId} {args : Array Value} {below : List Frame} {meth : Method} {c : Code} {H : Heap} {locs : List Loc} {cells slots : Nat} {Q : State → Prop}
variable {D : va_G} {cy : z_Cy} {b L : Nat} {xs : Nat → Int32} {adC adM : Nat → Nat} {i : Nat} {ls : Array Slot} {σ τ : z_Mem} {g : zG}
theorem lw_hour (F : zLF p s m args c D cy b L xs adC adM) (hR : 1000 ≤ R.frames ∧ 36000 ≤ R.locals) (hf : cells ≤ R.cells ∧ slots ≤ R.slots) (hi : i + 6 ≤ L) (hl : lv_has ls 4 (z_lls adC adM b i)) (hc : cG σ g) (hm : mG τ g) (hw : gW g) (hP : va_P D vwCl (z_ws YC adC cy σ) H) (hP2 : va_P D vwCl (z_ws YM adM cy τ) H) (hS : va_S (fun q => s.heap.size ≤ q) s.heap H locs)
    (kk : ∀ (σ τ : z_Mem) (g : zG) (H : Heap) (locs : List Loc), cG σ g → mG τ g → gW g → va_P D vwCl (z_ws YC adC cy σ) H → va_P D vwCl (z_ws YM adM cy τ) H → va_S (fun q => s.heap.size ≤ q) s.heap H locs → W p l e R s m args below meth c H locs cells slots Q (F0 m 1191 ls [])) : W p l e R s m args below meth c H locs cells slots Q (F0 m 513 ls []) := by
  obtain ⟨hx, hb, hml, hown, hts, hK, hX, hbl, hL, hij, hij2, hA, hA2, hap, hE, hE2⟩ := id F
  obtain ⟨r, g1, hw1, ⟨r1, σ1, e1, h1, hc1⟩, ⟨r2, τ1, e2, h2, hm1⟩⟩ := p_hour hc hm hw 
  subst h1
  subst h2
  refine lv_aload_n hx hb dL_law_513 rfl (lv_at hl 2 rfl) ?_
  refine lw_call (Y := YC) (Y2 := YM) (ad := adC) (ad2 := adM) (σ := σ) (τ := τ) (kc := 0) (M' := mX5_hour) (n := 0) (av := []) (d := 6) (mk' := z_i) ⟨hx, hb, hml, hown, hts⟩ hK hij hA (fun q h z => hap q z h) hE dL_law_514 ⟨(zs26 _ (List.mem_of_getElem? (i := 8) rfl)), (zs1 _ (List.mem_of_getElem? (i := 2) rfl)), (zs26 _ (List.mem_of_getElem? (i := 11) rfl))⟩ (zs26 _ (List.mem_of_getElem? (i := 9) rfl)) (zs26 _ (List.mem_of_getElem? (i := 10) rfl)) yc_0 rfl (by decide +kernel) rfl ⟨by omega, Nat.le_trans (m := 36000) (Nat.le_of_ble_eq_true rfl) hR.2⟩ hf hl.1 (by decide) (kX5_hour  σ 6 (by decide)) e1 hP hP2 hS (fun H locs hP hP2 hS => ?_)
  refine W.eq (g2 := F0 m 517 ls [.int _]) rfl ?_
  refine lv_aload_n hx hb dL_law_517 rfl (lv_at hl 1 rfl) ?_
  refine lw_call (Y := YM) (Y2 := YC) (ad := adM) (ad2 := adC) (σ := τ) (τ := σ1) (kc := 0) (M' := mX6_hour) (n := 0) (av := []) (d := 75) (mk' := z_i) ⟨hx, hb, hml, hown, hts⟩ hK hij2 hA2 hap hE2 dL_law_518 ⟨(zs26 _ (List.mem_of_getElem? (i := 21) rfl)), (zs1 _ (List.mem_of_getElem? (i := 5) rfl)), (zs27 _ (List.mem_of_getElem? (i := 0) rfl))⟩ (zs26 _ (List.mem_of_getElem? (i := 22) rfl)) (zs26 _ (List.mem_of_getElem? (i := 23) rfl)) ym_0 rfl (by decide +kernel) rfl ⟨by omega, Nat.le_trans (m := 36000) (Nat.le_of_ble_eq_true rfl) hR.2⟩ hf hl.1 (by simp [Value.category]) (kX6_hour  τ 75 (by decide)) e2 hP2 hP hS (fun H locs hP2 hP hS => ?_)
  refine W.eq (g2 := F0 m 521 ls [.int _, .int _]) rfl ?_
  exact lv_icmp_eq hx hb dL_law_521 (tgt := 1191) rfl (fun _ => kk _ _ _ H locs hc1 hm1 hw1 hP hP2 hS) (fun h => absurd rfl h)
theorem lw_wall (F : zLF p s m args c D cy b L xs adC adM) (hR : 1000 ≤ R.frames ∧ 36000 ≤ R.locals) (hf : cells ≤ R.cells ∧ slots ≤ R.slots) (hi : i + 6 ≤ L) (hl : lv_has ls 4 (z_lls adC adM b i)) (hc : cG σ g) (hm : mG τ g) (hw : gW g) (hP : va_P D vwCl (z_ws YC adC cy σ) H) (hP2 : va_P D vwCl (z_ws YM adM cy τ) H) (hS : va_S (fun q => s.heap.size ≤ q) s.heap H locs)
    (kk : ∀ (σ τ : z_Mem) (g : zG) (H : Heap) (locs : List Loc), cG σ g → mG τ g → gW g → va_P D vwCl (z_ws YC adC cy σ) H → va_P D vwCl (z_ws YM adM cy τ) H → va_S (fun q => s.heap.size ≤ q) s.heap H locs → W p l e R s m args below meth c H locs cells slots Q (F0 m 1191 ls [])) : W p l e R s m args below meth c H locs cells slots Q (F0 m 526 ls []) := by
  obtain ⟨hx, hb, hml, hown, hts, hK, hX, hbl, hL, hij, hij2, hA, hA2, hap, hE, hE2⟩ := id F
  obtain ⟨r, g1, hw1, ⟨r1, σ1, e1, h1, hc1⟩, ⟨r2, τ1, e2, h2, hm1⟩⟩ := p_wall hc hm hw (xs (i + 1))
  subst h1
  subst h2
  refine lv_aload_n hx hb dL_law_526 rfl (lv_at hl 2 rfl) ?_
  refine lw_arg (k := 1) F hS hl (by omega) rfl dL_law_527 dL_law_528 dL_law_529 dL_law_530 dL_law_531 ?_
  refine lw_call (Y := YC) (Y2 := YM) (ad := adC) (ad2 := adM) (σ := σ) (τ := τ) (kc := 0) (M' := mX5_wall) (n := 1) (av := [zI (xs (i + 1))]) (d := 6) (mk' := z_i) ⟨hx, hb, hml, hown, hts⟩ hK hij hA (fun q h z => hap q z h) hE dL_law_532 ⟨(zs27 _ (List.mem_of_getElem? (i := 5) rfl)), (zs1 _ (List.mem_of_getElem? (i := 2) rfl)), (zs27 _ (List.mem_of_getElem? (i := 8) rfl))⟩ (zs27 _ (List.mem_of_getElem? (i := 6) rfl)) (zs27 _ (List.mem_of_getElem? (i := 7) rfl)) yc_0 rfl (by decide +kernel) rfl ⟨by omega, Nat.le_trans (m := 36000) (Nat.le_of_ble_eq_true rfl) hR.2⟩ hf hl.1 (by decide) (kX5_wall (xs (i + 1)) σ 6 (by decide)) e1 hP hP2 hS (fun H locs hP hP2 hS => ?_)
  refine W.eq (g2 := F0 m 535 ls [.int _]) rfl ?_
  refine lv_aload_n hx hb dL_law_535 rfl (lv_at hl 1 rfl) ?_
  refine lw_arg (k := 1) F hS hl (by omega) rfl dL_law_536 dL_law_537 dL_law_538 dL_law_539 dL_law_540 ?_
  refine lw_call (Y := YM) (Y2 := YC) (ad := adM) (ad2 := adC) (σ := τ) (τ := σ1) (kc := 0) (M' := mX6_wall) (n := 1) (av := [zI (xs (i + 1))]) (d := 75) (mk' := z_i) ⟨hx, hb, hml, hown, hts⟩ hK hij2 hA2 hap hE2 dL_law_541 ⟨(zs27 _ (List.mem_of_getElem? (i := 17) rfl)), (zs1 _ (List.mem_of_getElem? (i := 5) rfl)), (zs27 _ (List.mem_of_getElem? (i := 20) rfl))⟩ (zs27 _ (List.mem_of_getElem? (i := 18) rfl)) (zs27 _ (List.mem_of_getElem? (i := 19) rfl)) ym_0 rfl (by decide +kernel) rfl ⟨by omega, Nat.le_trans (m := 36000) (Nat.le_of_ble_eq_true rfl) hR.2⟩ hf hl.1 (by simp [Value.category]) (kX6_wall (xs (i + 1)) τ 75 (by decide)) e2 hP2 hP hS (fun H locs hP2 hP hS => ?_)
  refine W.eq (g2 := F0 m 544 ls [.int _, .int _]) rfl ?_
  exact lv_icmp_eq hx hb dL_law_544 (tgt := 1191) rfl (fun _ => kk _ _ _ H locs hc1 hm1 hw1 hP hP2 hS) (fun h => absurd rfl h)
theorem lw_sneeze (F : zLF p s m args c D cy b L xs adC adM) (hR : 1000 ≤ R.frames ∧ 36000 ≤ R.locals) (hf : cells ≤ R.cells ∧ slots ≤ R.slots) (hi : i + 6 ≤ L) (hl : lv_has ls 4 (z_lls adC adM b i)) (hc : cG σ g) (hm : mG τ g) (hw : gW g) (hP : va_P D vwCl (z_ws YC adC cy σ) H) (hP2 : va_P D vwCl (z_ws YM adM cy τ) H) (hS : va_S (fun q => s.heap.size ≤ q) s.heap H locs)
    (kk : ∀ (σ τ : z_Mem) (g : zG) (H : Heap) (locs : List Loc), cG σ g → mG τ g → gW g → va_P D vwCl (z_ws YC adC cy σ) H → va_P D vwCl (z_ws YM adM cy τ) H → va_S (fun q => s.heap.size ≤ q) s.heap H locs → W p l e R s m args below meth c H locs cells slots Q (F0 m 1191 ls [])) : W p l e R s m args below meth c H locs cells slots Q (F0 m 549 ls []) := by
  obtain ⟨hx, hb, hml, hown, hts, hK, hX, hbl, hL, hij, hij2, hA, hA2, hap, hE, hE2⟩ := id F
  obtain ⟨r, g1, hw1, ⟨r1, σ1, e1, h1, hc1⟩, ⟨r2, τ1, e2, h2, hm1⟩⟩ := p_sneeze hc hm hw (xs (i + 1)) (xs (i + 2)) (xs (i + 3))
  subst h1
  subst h2
  refine lv_aload_n hx hb dL_law_549 rfl (lv_at hl 2 rfl) ?_
  refine lw_arg (k := 1) F hS hl (by omega) rfl dL_law_550 dL_law_551 dL_law_552 dL_law_553 dL_law_554 ?_
  refine lw_arg (k := 2) F hS hl (by omega) rfl dL_law_555 dL_law_556 dL_law_557 dL_law_558 dL_law_559 ?_
  refine lw_arg (k := 3) F hS hl (by omega) rfl dL_law_560 dL_law_561 dL_law_562 dL_law_563 dL_law_564 ?_
  refine lw_call (Y := YC) (Y2 := YM) (ad := adC) (ad2 := adM) (σ := σ) (τ := τ) (kc := 0) (M' := mX5_sneeze) (n := 3) (av := [zI (xs (i + 1)), zI (xs (i + 2)), zI (xs (i + 3))]) (d := 4) (mk' := z_i) ⟨hx, hb, hml, hown, hts⟩ hK hij hA (fun q h z => hap q z h) hE dL_law_565 ⟨(zs28 _ (List.mem_of_getElem? (i := 5) rfl)), (zs1 _ (List.mem_of_getElem? (i := 2) rfl)), (zs28 _ (List.mem_of_getElem? (i := 8) rfl))⟩ (zs28 _ (List.mem_of_getElem? (i := 6) rfl)) (zs28 _ (List.mem_of_getElem? (i := 7) rfl)) yc_0 rfl (by decide +kernel) rfl ⟨by omega, Nat.le_trans (m := 36000) (Nat.le_of_ble_eq_true rfl) hR.2⟩ hf hl.1 (by decide) (kX5_sneeze (xs (i + 1)) (xs (i + 2)) (xs (i + 3)) σ 4 (by decide)) e1 hP hP2 hS (fun H locs hP hP2 hS => ?_)
  refine W.eq (g2 := F0 m 568 ls [.int _]) rfl ?_
  refine lv_aload_n hx hb dL_law_568 rfl (lv_at hl 1 rfl) ?_
  refine lw_arg (k := 1) F hS hl (by omega) rfl dL_law_569 dL_law_570 dL_law_571 dL_law_572 dL_law_573 ?_
  refine lw_arg (k := 2) F hS hl (by omega) rfl dL_law_574 dL_law_575 dL_law_576 dL_law_577 dL_law_578 ?_
  refine lw_arg (k := 3) F hS hl (by omega) rfl dL_law_579 dL_law_580 dL_law_581 dL_law_582 dL_law_583 ?_
  refine lw_call (Y := YM) (Y2 := YC) (ad := adM) (ad2 := adC) (σ := τ) (τ := σ1) (kc := 0) (M' := mX6_sneeze) (n := 3) (av := [zI (xs (i + 1)), zI (xs (i + 2)), zI (xs (i + 3))]) (d := 73) (mk' := z_i) ⟨hx, hb, hml, hown, hts⟩ hK hij2 hA2 hap hE2 dL_law_584 ⟨(zs28 _ (List.mem_of_getElem? (i := 10) rfl)), (zs1 _ (List.mem_of_getElem? (i := 5) rfl)), (zs28 _ (List.mem_of_getElem? (i := 13) rfl))⟩ (zs28 _ (List.mem_of_getElem? (i := 11) rfl)) (zs28 _ (List.mem_of_getElem? (i := 12) rfl)) ym_0 rfl (by decide +kernel) rfl ⟨by omega, Nat.le_trans (m := 36000) (Nat.le_of_ble_eq_true rfl) hR.2⟩ hf hl.1 (by simp [Value.category]) (kX6_sneeze (xs (i + 1)) (xs (i + 2)) (xs (i + 3)) τ 73 (by decide)) e2 hP2 hP hS (fun H locs hP2 hP hS => ?_)
  refine W.eq (g2 := F0 m 587 ls [.int _, .int _]) rfl ?_
  exact lv_icmp_eq hx hb dL_law_587 (tgt := 1191) rfl (fun _ => kk _ _ _ H locs hc1 hm1 hw1 hP hP2 hS) (fun h => absurd rfl h)
theorem lw_run (F : zLF p s m args c D cy b L xs adC adM) (hR : 1000 ≤ R.frames ∧ 36000 ≤ R.locals) (hf : cells ≤ R.cells ∧ slots ≤ R.slots) (hi : i + 6 ≤ L) (hl : lv_has ls 4 (z_lls adC adM b i)) (hc : cG σ g) (hm : mG τ g) (hw : gW g) (hP : va_P D vwCl (z_ws YC adC cy σ) H) (hP2 : va_P D vwCl (z_ws YM adM cy τ) H) (hS : va_S (fun q => s.heap.size ≤ q) s.heap H locs)
    (kk : ∀ (σ τ : z_Mem) (g : zG) (H : Heap) (locs : List Loc), cG σ g → mG τ g → gW g → va_P D vwCl (z_ws YC adC cy σ) H → va_P D vwCl (z_ws YM adM cy τ) H → va_S (fun q => s.heap.size ≤ q) s.heap H locs → W p l e R s m args below meth c H locs cells slots Q (F0 m 1191 ls [])) : W p l e R s m args below meth c H locs cells slots Q (F0 m 592 ls []) := by
  obtain ⟨hx, hb, hml, hown, hts, hK, hX, hbl, hL, hij, hij2, hA, hA2, hap, hE, hE2⟩ := id F
  obtain ⟨r, g1, hw1, ⟨r1, σ1, e1, h1, hc1⟩, ⟨r2, τ1, e2, h2, hm1⟩⟩ := p_run hc hm hw (xs (i + 1)) (xs (i + 2))
  subst h1
  subst h2
  refine lv_aload_n hx hb dL_law_592 rfl (lv_at hl 2 rfl) ?_
  refine lw_arg (k := 1) F hS hl (by omega) rfl dL_law_593 dL_law_594 dL_law_595 dL_law_596 dL_law_597 ?_
  refine lw_arg (k := 2) F hS hl (by omega) rfl dL_law_598 dL_law_599 dL_law_600 dL_law_601 dL_law_602 ?_
  refine lw_call (Y := YC) (Y2 := YM) (ad := adC) (ad2 := adM) (σ := σ) (τ := τ) (kc := 0) (M' := mX5_run) (n := 2) (av := [zI (xs (i + 1)), zI (xs (i + 2))]) (d := 6) (mk' := z_i) ⟨hx, hb, hml, hown, hts⟩ hK hij hA (fun q h z => hap q z h) hE dL_law_603 ⟨(zs28 _ (List.mem_of_getElem? (i := 15) rfl)), (zs1 _ (List.mem_of_getElem? (i := 2) rfl)), (zs28 _ (List.mem_of_getElem? (i := 18) rfl))⟩ (zs28 _ (List.mem_of_getElem? (i := 16) rfl)) (zs28 _ (List.mem_of_getElem? (i := 17) rfl)) yc_0 rfl (by decide +kernel) rfl ⟨by omega, Nat.le_trans (m := 36000) (Nat.le_of_ble_eq_true rfl) hR.2⟩ hf hl.1 (by decide) (kX5_run (xs (i + 1)) (xs (i + 2)) σ 6 (by decide)) e1 hP hP2 hS (fun H locs hP hP2 hS => ?_)
  refine W.eq (g2 := F0 m 606 ls [.int _]) rfl ?_
  refine lv_aload_n hx hb dL_law_606 rfl (lv_at hl 1 rfl) ?_
  refine lw_arg (k := 1) F hS hl (by omega) rfl dL_law_607 dL_law_608 dL_law_609 dL_law_610 dL_law_611 ?_
  refine lw_arg (k := 2) F hS hl (by omega) rfl dL_law_612 dL_law_613 dL_law_614 dL_law_615 dL_law_616 ?_
  refine lw_call (Y := YM) (Y2 := YC) (ad := adM) (ad2 := adC) (σ := τ) (τ := σ1) (kc := 0) (M' := mX6_run) (n := 2) (av := [zI (xs (i + 1)), zI (xs (i + 2))]) (d := 75) (mk' := z_i) ⟨hx, hb, hml, hown, hts⟩ hK hij2 hA2 hap hE2 dL_law_617 ⟨(zs29 _ (List.mem_of_getElem? (i := 3) rfl)), (zs1 _ (List.mem_of_getElem? (i := 5) rfl)), (zs29 _ (List.mem_of_getElem? (i := 6) rfl))⟩ (zs29 _ (List.mem_of_getElem? (i := 4) rfl)) (zs29 _ (List.mem_of_getElem? (i := 5) rfl)) ym_0 rfl (by decide +kernel) rfl ⟨by omega, Nat.le_trans (m := 36000) (Nat.le_of_ble_eq_true rfl) hR.2⟩ hf hl.1 (by simp [Value.category]) (kX6_run (xs (i + 1)) (xs (i + 2)) τ 75 (by decide)) e2 hP2 hP hS (fun H locs hP2 hP hS => ?_)
  refine W.eq (g2 := F0 m 620 ls [.int _, .int _]) rfl ?_
  exact lv_icmp_eq hx hb dL_law_620 (tgt := 1191) rfl (fun _ => kk _ _ _ H locs hc1 hm1 hw1 hP hP2 hS) (fun h => absurd rfl h)
theorem lw_opens (F : zLF p s m args c D cy b L xs adC adM) (hR : 1000 ≤ R.frames ∧ 36000 ≤ R.locals) (hf : cells ≤ R.cells ∧ slots ≤ R.slots) (hi : i + 6 ≤ L) (hl : lv_has ls 4 (z_lls adC adM b i)) (hc : cG σ g) (hm : mG τ g) (hw : gW g) (hP : va_P D vwCl (z_ws YC adC cy σ) H) (hP2 : va_P D vwCl (z_ws YM adM cy τ) H) (hS : va_S (fun q => s.heap.size ≤ q) s.heap H locs)
    (kk : ∀ (σ τ : z_Mem) (g : zG) (H : Heap) (locs : List Loc), cG σ g → mG τ g → gW g → va_P D vwCl (z_ws YC adC cy σ) H → va_P D vwCl (z_ws YM adM cy τ) H → va_S (fun q => s.heap.size ≤ q) s.heap H locs → W p l e R s m args below meth c H locs cells slots Q (F0 m 1191 ls [])) : W p l e R s m args below meth c H locs cells slots Q (F0 m 625 ls []) := by
  obtain ⟨hx, hb, hml, hown, hts, hK, hX, hbl, hL, hij, hij2, hA, hA2, hap, hE, hE2⟩ := id F
  obtain ⟨r, g1, hw1, ⟨r1, σ1, e1, h1, hc1⟩, ⟨r2, τ1, e2, h2, hm1⟩⟩ := p_opens hc hm hw 
  subst h1
  subst h2
  refine lv_aload_n hx hb dL_law_625 rfl (lv_at hl 2 rfl) ?_
  refine lw_call (Y := YC) (Y2 := YM) (ad := adC) (ad2 := adM) (σ := σ) (τ := τ) (kc := 0) (M' := mX5_opens) (n := 0) (av := []) (d := 6) (mk' := z_i) ⟨hx, hb, hml, hown, hts⟩ hK hij hA (fun q h z => hap q z h) hE dL_law_626 ⟨(zs29 _ (List.mem_of_getElem? (i := 17) rfl)), (zs1 _ (List.mem_of_getElem? (i := 2) rfl)), (zs29 _ (List.mem_of_getElem? (i := 20) rfl))⟩ (zs29 _ (List.mem_of_getElem? (i := 18) rfl)) (zs29 _ (List.mem_of_getElem? (i := 19) rfl)) yc_0 rfl (by decide +kernel) rfl ⟨by omega, Nat.le_trans (m := 36000) (Nat.le_of_ble_eq_true rfl) hR.2⟩ hf hl.1 (by decide) (kX5_opens  σ 6 (by decide)) e1 hP hP2 hS (fun H locs hP hP2 hS => ?_)
  refine W.eq (g2 := F0 m 629 ls [.int _]) rfl ?_
  refine lv_aload_n hx hb dL_law_629 rfl (lv_at hl 1 rfl) ?_
  refine lw_call (Y := YM) (Y2 := YC) (ad := adM) (ad2 := adC) (σ := τ) (τ := σ1) (kc := 0) (M' := mX6_opens) (n := 0) (av := []) (d := 75) (mk' := z_i) ⟨hx, hb, hml, hown, hts⟩ hK hij2 hA2 hap hE2 dL_law_630 ⟨(zs29 _ (List.mem_of_getElem? (i := 21) rfl)), (zs1 _ (List.mem_of_getElem? (i := 5) rfl)), (zs30 _ (List.mem_of_getElem? (i := 0) rfl))⟩ (zs29 _ (List.mem_of_getElem? (i := 22) rfl)) (zs29 _ (List.mem_of_getElem? (i := 23) rfl)) ym_0 rfl (by decide +kernel) rfl ⟨by omega, Nat.le_trans (m := 36000) (Nat.le_of_ble_eq_true rfl) hR.2⟩ hf hl.1 (by simp [Value.category]) (kX6_opens  τ 75 (by decide)) e2 hP2 hP hS (fun H locs hP2 hP hS => ?_)
  refine W.eq (g2 := F0 m 633 ls [.int _, .int _]) rfl ?_
  exact lv_icmp_eq hx hb dL_law_633 (tgt := 1191) rfl (fun _ => kk _ _ _ H locs hc1 hm1 hw1 hP hP2 hS) (fun h => absurd rfl h)
theorem lw_order (F : zLF p s m args c D cy b L xs adC adM) (hR : 1000 ≤ R.frames ∧ 36000 ≤ R.locals) (hf : cells ≤ R.cells ∧ slots ≤ R.slots) (hi : i + 6 ≤ L) (hl : lv_has ls 4 (z_lls adC adM b i)) (hc : cG σ g) (hm : mG τ g) (hw : gW g) (hP : va_P D vwCl (z_ws YC adC cy σ) H) (hP2 : va_P D vwCl (z_ws YM adM cy τ) H) (hS : va_S (fun q => s.heap.size ≤ q) s.heap H locs)
    (kk : ∀ (σ τ : z_Mem) (g : zG) (H : Heap) (locs : List Loc), cG σ g → mG τ g → gW g → va_P D vwCl (z_ws YC adC cy σ) H → va_P D vwCl (z_ws YM adM cy τ) H → va_S (fun q => s.heap.size ≤ q) s.heap H locs → W p l e R s m args below meth c H locs cells slots Q (F0 m 1191 ls [])) : W p l e R s m args below meth c H locs cells slots Q (F0 m 638 ls []) := by
  obtain ⟨hx, hb, hml, hown, hts, hK, hX, hbl, hL, hij, hij2, hA, hA2, hap, hE, hE2⟩ := id F
  obtain ⟨r, g1, hw1, ⟨r1, σ1, e1, h1, hc1⟩, ⟨r2, τ1, e2, h2, hm1⟩⟩ := p_order hc hm hw (xs (i + 1))
  subst h1
  subst h2
  refine lv_aload_n hx hb dL_law_638 rfl (lv_at hl 2 rfl) ?_
  refine lw_arg (k := 1) F hS hl (by omega) rfl dL_law_639 dL_law_640 dL_law_641 dL_law_642 dL_law_643 ?_
  refine lw_call (Y := YC) (Y2 := YM) (ad := adC) (ad2 := adM) (σ := σ) (τ := τ) (kc := 0) (M' := mX5_order) (n := 1) (av := [zI (xs (i + 1))]) (d := 67) (mk' := z_i) ⟨hx, hb, hml, hown, hts⟩ hK hij hA (fun q h z => hap q z h) hE dL_law_644 ⟨(zs30 _ (List.mem_of_getElem? (i := 1) rfl)), (zs1 _ (List.mem_of_getElem? (i := 2) rfl)), (zs30 _ (List.mem_of_getElem? (i := 4) rfl))⟩ (zs30 _ (List.mem_of_getElem? (i := 2) rfl)) (zs30 _ (List.mem_of_getElem? (i := 3) rfl)) yc_0 rfl (by decide +kernel) rfl ⟨by omega, Nat.le_trans (m := 36000) (Nat.le_of_ble_eq_true rfl) hR.2⟩ hf hl.1 (by decide) (kX5_order (xs (i + 1)) σ 67 (by decide)) e1 hP hP2 hS (fun H locs hP hP2 hS => ?_)
  refine W.eq (g2 := F0 m 647 ls [.int _]) rfl ?_
  refine lv_aload_n hx hb dL_law_647 rfl (lv_at hl 1 rfl) ?_
  refine lw_arg (k := 1) F hS hl (by omega) rfl dL_law_648 dL_law_649 dL_law_650 dL_law_651 dL_law_652 ?_
  refine lw_call (Y := YM) (Y2 := YC) (ad := adM) (ad2 := adC) (σ := τ) (τ := σ1) (kc := 0) (M' := mX6_order) (n := 1) (av := [zI (xs (i + 1))]) (d := 139) (mk' := z_i) ⟨hx, hb, hml, hown, hts⟩ hK hij2 hA2 hap hE2 dL_law_653 ⟨(zs31 _ (List.mem_of_getElem? (i := 9) rfl)), (zs1 _ (List.mem_of_getElem? (i := 5) rfl)), (zs31 _ (List.mem_of_getElem? (i := 12) rfl))⟩ (zs31 _ (List.mem_of_getElem? (i := 10) rfl)) (zs31 _ (List.mem_of_getElem? (i := 11) rfl)) ym_0 rfl (by decide +kernel) rfl ⟨by omega, Nat.le_trans (m := 36000) (Nat.le_of_ble_eq_true rfl) hR.2⟩ hf hl.1 (by simp [Value.category]) (kX6_order (xs (i + 1)) τ 139 (by decide)) e2 hP2 hP hS (fun H locs hP2 hP hS => ?_)
  refine W.eq (g2 := F0 m 656 ls [.int _, .int _]) rfl ?_
  exact lv_icmp_eq hx hb dL_law_656 (tgt := 1191) rfl (fun _ => kk _ _ _ H locs hc1 hm1 hw1 hP hP2 hS) (fun h => absurd rfl h)
theorem lw_let (F : zLF p s m args c D cy b L xs adC adM) (hR : 1000 ≤ R.frames ∧ 36000 ≤ R.locals) (hf : cells ≤ R.cells ∧ slots ≤ R.slots) (hi : i + 6 ≤ L) (hl : lv_has ls 4 (z_lls adC adM b i)) (hc : cG σ g) (hm : mG τ g) (hw : gW g) (hP : va_P D vwCl (z_ws YC adC cy σ) H) (hP2 : va_P D vwCl (z_ws YM adM cy τ) H) (hS : va_S (fun q => s.heap.size ≤ q) s.heap H locs)
    (kk : ∀ (σ τ : z_Mem) (g : zG) (H : Heap) (locs : List Loc), cG σ g → mG τ g → gW g → va_P D vwCl (z_ws YC adC cy σ) H → va_P D vwCl (z_ws YM adM cy τ) H → va_S (fun q => s.heap.size ≤ q) s.heap H locs → W p l e R s m args below meth c H locs cells slots Q (F0 m 1191 ls [])) : W p l e R s m args below meth c H locs cells slots Q (F0 m 661 ls []) := by
  obtain ⟨hx, hb, hml, hown, hts, hK, hX, hbl, hL, hij, hij2, hA, hA2, hap, hE, hE2⟩ := id F
  obtain ⟨r, g1, hw1, ⟨r1, σ1, e1, h1, hc1⟩, ⟨r2, τ1, e2, h2, hm1⟩⟩ := p_let hc hm hw (xs (i + 1))
  subst h1
  subst h2
  refine lv_aload_n hx hb dL_law_661 rfl (lv_at hl 2 rfl) ?_
  refine lw_arg (k := 1) F hS hl (by omega) rfl dL_law_662 dL_law_663 dL_law_664 dL_law_665 dL_law_666 ?_
  refine lw_call (Y := YC) (Y2 := YM) (ad := adC) (ad2 := adM) (σ := σ) (τ := τ) (kc := 0) (M' := mX5_let) (n := 1) (av := [zI (xs (i + 1))]) (d := 6) (mk' := z_i) ⟨hx, hb, hml, hown, hts⟩ hK hij hA (fun q h z => hap q z h) hE dL_law_667 ⟨(zs31 _ (List.mem_of_getElem? (i := 23) rfl)), (zs1 _ (List.mem_of_getElem? (i := 2) rfl)), (zs32 _ (List.mem_of_getElem? (i := 2) rfl))⟩ (zs32 _ (List.mem_of_getElem? (i := 0) rfl)) (zs32 _ (List.mem_of_getElem? (i := 1) rfl)) yc_0 rfl (by decide +kernel) rfl ⟨by omega, Nat.le_trans (m := 36000) (Nat.le_of_ble_eq_true rfl) hR.2⟩ hf hl.1 (by decide) (kX5_let (xs (i + 1)) σ 6 (by decide)) e1 hP hP2 hS (fun H locs hP hP2 hS => ?_)
  refine W.eq (g2 := F0 m 670 ls [.int _]) rfl ?_
  refine lv_aload_n hx hb dL_law_670 rfl (lv_at hl 1 rfl) ?_
  refine lw_arg (k := 1) F hS hl (by omega) rfl dL_law_671 dL_law_672 dL_law_673 dL_law_674 dL_law_675 ?_
  refine lw_call (Y := YM) (Y2 := YC) (ad := adM) (ad2 := adC) (σ := τ) (τ := σ1) (kc := 0) (M' := mX6_let) (n := 1) (av := [zI (xs (i + 1))]) (d := 75) (mk' := z_i) ⟨hx, hb, hml, hown, hts⟩ hK hij2 hA2 hap hE2 dL_law_676 ⟨(zs32 _ (List.mem_of_getElem? (i := 4) rfl)), (zs1 _ (List.mem_of_getElem? (i := 5) rfl)), (zs32 _ (List.mem_of_getElem? (i := 7) rfl))⟩ (zs32 _ (List.mem_of_getElem? (i := 5) rfl)) (zs32 _ (List.mem_of_getElem? (i := 6) rfl)) ym_0 rfl (by decide +kernel) rfl ⟨by omega, Nat.le_trans (m := 36000) (Nat.le_of_ble_eq_true rfl) hR.2⟩ hf hl.1 (by simp [Value.category]) (kX6_let (xs (i + 1)) τ 75 (by decide)) e2 hP2 hP hS (fun H locs hP2 hP hS => ?_)
  refine W.eq (g2 := F0 m 679 ls [.int _, .int _]) rfl ?_
  exact lv_icmp_eq hx hb dL_law_679 (tgt := 1191) rfl (fun _ => kk _ _ _ H locs hc1 hm1 hw1 hP hP2 hS) (fun h => absurd rfl h)
theorem lw_letsIn (F : zLF p s m args c D cy b L xs adC adM) (hR : 1000 ≤ R.frames ∧ 36000 ≤ R.locals) (hf : cells ≤ R.cells ∧ slots ≤ R.slots) (hi : i + 6 ≤ L) (hl : lv_has ls 4 (z_lls adC adM b i)) (hc : cG σ g) (hm : mG τ g) (hw : gW g) (hP : va_P D vwCl (z_ws YC adC cy σ) H) (hP2 : va_P D vwCl (z_ws YM adM cy τ) H) (hS : va_S (fun q => s.heap.size ≤ q) s.heap H locs)
    (kk : ∀ (σ τ : z_Mem) (g : zG) (H : Heap) (locs : List Loc), cG σ g → mG τ g → gW g → va_P D vwCl (z_ws YC adC cy σ) H → va_P D vwCl (z_ws YM adM cy τ) H → va_S (fun q => s.heap.size ≤ q) s.heap H locs → W p l e R s m args below meth c H locs cells slots Q (F0 m 1191 ls [])) : W p l e R s m args below meth c H locs cells slots Q (F0 m 684 ls []) := by
  obtain ⟨hx, hb, hml, hown, hts, hK, hX, hbl, hL, hij, hij2, hA, hA2, hap, hE, hE2⟩ := id F
  obtain ⟨r, g1, hw1, ⟨r1, σ1, e1, h1, hc1⟩, ⟨r2, τ1, e2, h2, hm1⟩⟩ := p_letsIn hc hm hw (xs (i + 1)) (xs (i + 2))
  subst h1
  subst h2
  refine lv_aload_n hx hb dL_law_684 rfl (lv_at hl 2 rfl) ?_
  refine lw_arg (k := 1) F hS hl (by omega) rfl dL_law_685 dL_law_686 dL_law_687 dL_law_688 dL_law_689 ?_
  refine lw_arg (k := 2) F hS hl (by omega) rfl dL_law_690 dL_law_691 dL_law_692 dL_law_693 dL_law_694 ?_
  refine lw_call (Y := YC) (Y2 := YM) (ad := adC) (ad2 := adM) (σ := σ) (τ := τ) (kc := 0) (M' := mX5_letsIn) (n := 2) (av := [zI (xs (i + 1)), zI (xs (i + 2))]) (d := 6) (mk' := z_i) ⟨hx, hb, hml, hown, hts⟩ hK hij hA (fun q h z => hap q z h) hE dL_law_695 ⟨(zs32 _ (List.mem_of_getElem? (i := 8) rfl)), (zs1 _ (List.mem_of_getElem? (i := 2) rfl)), (zs32 _ (List.mem_of_getElem? (i := 11) rfl))⟩ (zs32 _ (List.mem_of_getElem? (i := 9) rfl)) (zs32 _ (List.mem_of_getElem? (i := 10) rfl)) yc_0 rfl (by decide +kernel) rfl ⟨by omega, Nat.le_trans (m := 36000) (Nat.le_of_ble_eq_true rfl) hR.2⟩ hf hl.1 (by decide) (kX5_letsIn (xs (i + 1)) (xs (i + 2)) σ 6 (by decide)) e1 hP hP2 hS (fun H locs hP hP2 hS => ?_)
  refine W.eq (g2 := F0 m 698 ls [.int _]) rfl ?_
  refine lv_aload_n hx hb dL_law_698 rfl (lv_at hl 1 rfl) ?_
  refine lw_arg (k := 1) F hS hl (by omega) rfl dL_law_699 dL_law_700 dL_law_701 dL_law_702 dL_law_703 ?_
  refine lw_arg (k := 2) F hS hl (by omega) rfl dL_law_704 dL_law_705 dL_law_706 dL_law_707 dL_law_708 ?_
  refine lw_call (Y := YM) (Y2 := YC) (ad := adM) (ad2 := adC) (σ := τ) (τ := σ1) (kc := 0) (M' := mX6_letsIn) (n := 2) (av := [zI (xs (i + 1)), zI (xs (i + 2))]) (d := 75) (mk' := z_i) ⟨hx, hb, hml, hown, hts⟩ hK hij2 hA2 hap hE2 dL_law_709 ⟨(zs32 _ (List.mem_of_getElem? (i := 12) rfl)), (zs1 _ (List.mem_of_getElem? (i := 5) rfl)), (zs32 _ (List.mem_of_getElem? (i := 15) rfl))⟩ (zs32 _ (List.mem_of_getElem? (i := 13) rfl)) (zs32 _ (List.mem_of_getElem? (i := 14) rfl)) ym_0 rfl (by decide +kernel) rfl ⟨by omega, Nat.le_trans (m := 36000) (Nat.le_of_ble_eq_true rfl) hR.2⟩ hf hl.1 (by simp [Value.category]) (kX6_letsIn (xs (i + 1)) (xs (i + 2)) τ 75 (by decide)) e2 hP2 hP hS (fun H locs hP2 hP hS => ?_)
  refine W.eq (g2 := F0 m 712 ls [.int _, .int _]) rfl ?_
  exact lv_icmp_eq hx hb dL_law_712 (tgt := 1191) rfl (fun _ => kk _ _ _ H locs hc1 hm1 hw1 hP hP2 hS) (fun h => absurd rfl h)
theorem lw_swaps (F : zLF p s m args c D cy b L xs adC adM) (hR : 1000 ≤ R.frames ∧ 36000 ≤ R.locals) (hf : cells ≤ R.cells ∧ slots ≤ R.slots) (hi : i + 6 ≤ L) (hl : lv_has ls 4 (z_lls adC adM b i)) (hc : cG σ g) (hm : mG τ g) (hw : gW g) (hP : va_P D vwCl (z_ws YC adC cy σ) H) (hP2 : va_P D vwCl (z_ws YM adM cy τ) H) (hS : va_S (fun q => s.heap.size ≤ q) s.heap H locs)
    (kk : ∀ (σ τ : z_Mem) (g : zG) (H : Heap) (locs : List Loc), cG σ g → mG τ g → gW g → va_P D vwCl (z_ws YC adC cy σ) H → va_P D vwCl (z_ws YM adM cy τ) H → va_S (fun q => s.heap.size ≤ q) s.heap H locs → W p l e R s m args below meth c H locs cells slots Q (F0 m 1191 ls [])) : W p l e R s m args below meth c H locs cells slots Q (F0 m 717 ls []) := by
  obtain ⟨hx, hb, hml, hown, hts, hK, hX, hbl, hL, hij, hij2, hA, hA2, hap, hE, hE2⟩ := id F
  obtain ⟨r, g1, hw1, ⟨r1, σ1, e1, h1, hc1⟩, ⟨r2, τ1, e2, h2, hm1⟩⟩ := p_swaps hc hm hw 
  subst h1
  subst h2
  refine lv_aload_n hx hb dL_law_717 rfl (lv_at hl 2 rfl) ?_
  refine lw_call (Y := YC) (Y2 := YM) (ad := adC) (ad2 := adM) (σ := σ) (τ := τ) (kc := 0) (M' := mX5_swaps) (n := 0) (av := []) (d := 68) (mk' := z_i) ⟨hx, hb, hml, hown, hts⟩ hK hij hA (fun q h z => hap q z h) hE dL_law_718 ⟨(zs32 _ (List.mem_of_getElem? (i := 16) rfl)), (zs1 _ (List.mem_of_getElem? (i := 2) rfl)), (zs32 _ (List.mem_of_getElem? (i := 19) rfl))⟩ (zs32 _ (List.mem_of_getElem? (i := 17) rfl)) (zs32 _ (List.mem_of_getElem? (i := 18) rfl)) yc_0 rfl (by decide +kernel) rfl ⟨by omega, Nat.le_trans (m := 36000) (Nat.le_of_ble_eq_true rfl) hR.2⟩ hf hl.1 (by decide) (kX5_swaps  σ 68 (by decide)) e1 hP hP2 hS (fun H locs hP hP2 hS => ?_)
  refine W.eq (g2 := F0 m 721 ls [.int _]) rfl ?_
  refine lv_aload_n hx hb dL_law_721 rfl (lv_at hl 1 rfl) ?_
  refine lw_call (Y := YM) (Y2 := YC) (ad := adM) (ad2 := adC) (σ := τ) (τ := σ1) (kc := 0) (M' := mX6_swaps) (n := 0) (av := []) (d := 139) (mk' := z_i) ⟨hx, hb, hml, hown, hts⟩ hK hij2 hA2 hap hE2 dL_law_722 ⟨(zs33 _ (List.mem_of_getElem? (i := 12) rfl)), (zs1 _ (List.mem_of_getElem? (i := 5) rfl)), (zs33 _ (List.mem_of_getElem? (i := 15) rfl))⟩ (zs33 _ (List.mem_of_getElem? (i := 13) rfl)) (zs33 _ (List.mem_of_getElem? (i := 14) rfl)) ym_0 rfl (by decide +kernel) rfl ⟨by omega, Nat.le_trans (m := 36000) (Nat.le_of_ble_eq_true rfl) hR.2⟩ hf hl.1 (by simp [Value.category]) (kX6_swaps  τ 139 (by decide)) e2 hP2 hP hS (fun H locs hP2 hP hS => ?_)
  refine W.eq (g2 := F0 m 725 ls [.int _, .int _]) rfl ?_
  exact lv_icmp_eq hx hb dL_law_725 (tgt := 1191) rfl (fun _ => kk _ _ _ H locs hc1 hm1 hw1 hP hP2 hS) (fun h => absurd rfl h)
theorem lw_mean (F : zLF p s m args c D cy b L xs adC adM) (hR : 1000 ≤ R.frames ∧ 36000 ≤ R.locals) (hf : cells ≤ R.cells ∧ slots ≤ R.slots) (hi : i + 6 ≤ L) (hl : lv_has ls 4 (z_lls adC adM b i)) (hc : cG σ g) (hm : mG τ g) (hw : gW g) (hP : va_P D vwCl (z_ws YC adC cy σ) H) (hP2 : va_P D vwCl (z_ws YM adM cy τ) H) (hS : va_S (fun q => s.heap.size ≤ q) s.heap H locs)
    (kk : ∀ (σ τ : z_Mem) (g : zG) (H : Heap) (locs : List Loc), cG σ g → mG τ g → gW g → va_P D vwCl (z_ws YC adC cy σ) H → va_P D vwCl (z_ws YM adM cy τ) H → va_S (fun q => s.heap.size ≤ q) s.heap H locs → W p l e R s m args below meth c H locs cells slots Q (F0 m 1191 ls [])) : W p l e R s m args below meth c H locs cells slots Q (F0 m 730 ls []) := by
  obtain ⟨hx, hb, hml, hown, hts, hK, hX, hbl, hL, hij, hij2, hA, hA2, hap, hE, hE2⟩ := id F
  obtain ⟨r, g1, hw1, ⟨r1, σ1, e1, h1, hc1⟩, ⟨r2, τ1, e2, h2, hm1⟩⟩ := p_mean hc hm hw (xs (i + 1))
  subst h1
  subst h2
  refine lv_aload_n hx hb dL_law_730 rfl (lv_at hl 2 rfl) ?_
  refine lw_arg (k := 1) F hS hl (by omega) rfl dL_law_731 dL_law_732 dL_law_733 dL_law_734 dL_law_735 ?_
  refine lw_call (Y := YC) (Y2 := YM) (ad := adC) (ad2 := adM) (σ := σ) (τ := τ) (kc := 0) (M' := mX5_mean) (n := 1) (av := [zI (xs (i + 1))]) (d := 3) (mk' := z_l) ⟨hx, hb, hml, hown, hts⟩ hK hij hA (fun q h z => hap q z h) hE dL_law_736 ⟨(zs33 _ (List.mem_of_getElem? (i := 20) rfl)), (zs1 _ (List.mem_of_getElem? (i := 2) rfl)), (zs33 _ (List.mem_of_getElem? (i := 23) rfl))⟩ (zs33 _ (List.mem_of_getElem? (i := 21) rfl)) (zs33 _ (List.mem_of_getElem? (i := 22) rfl)) yc_0 rfl (by decide +kernel) rfl ⟨by omega, Nat.le_trans (m := 36000) (Nat.le_of_ble_eq_true rfl) hR.2⟩ hf hl.1 (by decide) (kX5_mean (xs (i + 1)) σ 3 (by decide)) e1 hP hP2 hS (fun H locs hP hP2 hS => ?_)
  refine W.eq (g2 := F0 m 739 ls [.long _]) rfl ?_
  refine lv_aload_n hx hb dL_law_739 rfl (lv_at hl 1 rfl) ?_
  refine lw_arg (k := 1) F hS hl (by omega) rfl dL_law_740 dL_law_741 dL_law_742 dL_law_743 dL_law_744 ?_
  refine lw_call (Y := YM) (Y2 := YC) (ad := adM) (ad2 := adC) (σ := τ) (τ := σ1) (kc := 0) (M' := mX6_mean) (n := 1) (av := [zI (xs (i + 1))]) (d := 2) (mk' := z_l) ⟨hx, hb, hml, hown, hts⟩ hK hij2 hA2 hap hE2 dL_law_745 ⟨(zs34 _ (List.mem_of_getElem? (i := 4) rfl)), (zs1 _ (List.mem_of_getElem? (i := 5) rfl)), (zs34 _ (List.mem_of_getElem? (i := 7) rfl))⟩ (zs34 _ (List.mem_of_getElem? (i := 5) rfl)) (zs34 _ (List.mem_of_getElem? (i := 6) rfl)) ym_0 rfl (by decide +kernel) rfl ⟨by omega, Nat.le_trans (m := 36000) (Nat.le_of_ble_eq_true rfl) hR.2⟩ hf hl.1 (by simp [Value.category]) (kX6_mean (xs (i + 1)) τ 2 (by decide)) e2 hP2 hP hS (fun H locs hP2 hP hS => ?_)
  refine W.eq (g2 := F0 m 748 ls [.long _, .long _]) rfl ?_
  refine W.lcmp hx hb dL_law_748 ?_
  rw [z_lgself]
  exact lv_if_eq hx hb dL_law_749 (tgt := 1191) rfl (fun _ => kk _ _ _ H locs hc1 hm1 hw1 hP hP2 hS) (fun h => absurd rfl h)
theorem lw_tells (F : zLF p s m args c D cy b L xs adC adM) (hR : 1000 ≤ R.frames ∧ 36000 ≤ R.locals) (hf : cells ≤ R.cells ∧ slots ≤ R.slots) (hi : i + 6 ≤ L) (hl : lv_has ls 4 (z_lls adC adM b i)) (hc : cG σ g) (hm : mG τ g) (hw : gW g) (hP : va_P D vwCl (z_ws YC adC cy σ) H) (hP2 : va_P D vwCl (z_ws YM adM cy τ) H) (hS : va_S (fun q => s.heap.size ≤ q) s.heap H locs)
    (kk : ∀ (σ τ : z_Mem) (g : zG) (H : Heap) (locs : List Loc), cG σ g → mG τ g → gW g → va_P D vwCl (z_ws YC adC cy σ) H → va_P D vwCl (z_ws YM adM cy τ) H → va_S (fun q => s.heap.size ≤ q) s.heap H locs → W p l e R s m args below meth c H locs cells slots Q (F0 m 1191 ls [])) : W p l e R s m args below meth c H locs cells slots Q (F0 m 754 ls []) := by
  obtain ⟨hx, hb, hml, hown, hts, hK, hX, hbl, hL, hij, hij2, hA, hA2, hap, hE, hE2⟩ := id F
  obtain ⟨r, g1, hw1, ⟨r1, σ1, e1, h1, hc1⟩, ⟨r2, τ1, e2, h2, hm1⟩⟩ := p_tells hc hm hw (xs (i + 1)) (xs (i + 2)) (xs (i + 3))
  subst h1
  subst h2
  refine lv_aload_n hx hb dL_law_754 rfl (lv_at hl 2 rfl) ?_
  refine lw_arg (k := 1) F hS hl (by omega) rfl dL_law_755 dL_law_756 dL_law_757 dL_law_758 dL_law_759 ?_
  refine lw_arg (k := 2) F hS hl (by omega) rfl dL_law_760 dL_law_761 dL_law_762 dL_law_763 dL_law_764 ?_
  refine lw_arg (k := 3) F hS hl (by omega) rfl dL_law_765 dL_law_766 dL_law_767 dL_law_768 dL_law_769 ?_
  refine lw_call (Y := YC) (Y2 := YM) (ad := adC) (ad2 := adM) (σ := σ) (τ := τ) (kc := 0) (M' := mX5_tells) (n := 3) (av := [zI (xs (i + 1)), zI (xs (i + 2)), zI (xs (i + 3))]) (d := 7) (mk' := z_i) ⟨hx, hb, hml, hown, hts⟩ hK hij hA (fun q h z => hap q z h) hE dL_law_770 ⟨(zs34 _ (List.mem_of_getElem? (i := 12) rfl)), (zs1 _ (List.mem_of_getElem? (i := 2) rfl)), (zs34 _ (List.mem_of_getElem? (i := 15) rfl))⟩ (zs34 _ (List.mem_of_getElem? (i := 13) rfl)) (zs34 _ (List.mem_of_getElem? (i := 14) rfl)) yc_0 rfl (by decide +kernel) rfl ⟨by omega, Nat.le_trans (m := 36000) (Nat.le_of_ble_eq_true rfl) hR.2⟩ hf hl.1 (by decide) (kX5_tells (xs (i + 1)) (xs (i + 2)) (xs (i + 3)) σ 7 (by decide)) e1 hP hP2 hS (fun H locs hP hP2 hS => ?_)
  refine W.eq (g2 := F0 m 773 ls [.int _]) rfl ?_
  refine lv_aload_n hx hb dL_law_773 rfl (lv_at hl 1 rfl) ?_
  refine lw_arg (k := 1) F hS hl (by omega) rfl dL_law_774 dL_law_775 dL_law_776 dL_law_777 dL_law_778 ?_
  refine lw_arg (k := 2) F hS hl (by omega) rfl dL_law_779 dL_law_780 dL_law_781 dL_law_782 dL_law_783 ?_
  refine lw_arg (k := 3) F hS hl (by omega) rfl dL_law_784 dL_law_785 dL_law_786 dL_law_787 dL_law_788 ?_
  refine lw_call (Y := YM) (Y2 := YC) (ad := adM) (ad2 := adC) (σ := τ) (τ := σ1) (kc := 0) (M' := mX6_tells) (n := 3) (av := [zI (xs (i + 1)), zI (xs (i + 2)), zI (xs (i + 3))]) (d := 75) (mk' := z_i) ⟨hx, hb, hml, hown, hts⟩ hK hij2 hA2 hap hE2 dL_law_789 ⟨(zs35 _ (List.mem_of_getElem? (i := 10) rfl)), (zs1 _ (List.mem_of_getElem? (i := 5) rfl)), (zs35 _ (List.mem_of_getElem? (i := 13) rfl))⟩ (zs35 _ (List.mem_of_getElem? (i := 11) rfl)) (zs35 _ (List.mem_of_getElem? (i := 12) rfl)) ym_0 rfl (by decide +kernel) rfl ⟨by omega, Nat.le_trans (m := 36000) (Nat.le_of_ble_eq_true rfl) hR.2⟩ hf hl.1 (by simp [Value.category]) (kX6_tells (xs (i + 1)) (xs (i + 2)) (xs (i + 3)) τ 75 (by decide)) e2 hP2 hP hS (fun H locs hP2 hP hS => ?_)
  refine W.eq (g2 := F0 m 792 ls [.int _, .int _]) rfl ?_
  exact lv_icmp_eq hx hb dL_law_792 (tgt := 1191) rfl (fun _ => kk _ _ _ H locs hc1 hm1 hw1 hP hP2 hS) (fun h => absurd rfl h)
end ZLC
