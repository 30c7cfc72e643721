/-! the constructor's last rows: the first TEXT is read -/
section ZRD
variable {p : Program} {l : Launch} {e : Env} {R : Room} {s : State} {m : MethodId} {args : Array Value} {below : List Frame} {meth : Method} {c : Code} {H : Heap} {locs : List Loc} {cells slots : Nat} {Q : State → Prop}
variable {D : va_G} {cy : z_Cy} {ad : Nat → Nat} {B : Nat → Prop} {σ σ' : z_Mem} {ls : Array Slot} {r : Int32}
theorem wX5_rd {t : Nat} {i : Int32} (hAB : ∀ q, z_A ad YC.length q → B q) (C0 : z_K0 RX5 cX5_init 3 p s m args meth c D cy) (hij : z_inj YC ad) (hE : z_Env ad (z_A ad YC.length) s s.heap) (hR : 80 ≤ R.frames ∧ 2400 ≤ R.locals) (hf : cells ≤ R.cells ∧ slots ≤ R.slots) (hP : va_P D vwCl (z_ws YC ad cy σ) H) (hS : z_S2 (z_A ad YC.length) B s.heap H locs) (hl : lv_has ls 3 [(2, .int i), (1, .ref t), (0, .ref (ad 0))]) (hr : fX2_read σ = some (r, σ'))
    (kk : ∀ (H : Heap) (locs : List Loc), va_P D vwCl (z_ws YC ad cy σ') H → z_S2 (z_A ad YC.length) B s.heap H locs → W p l e R s m args below meth c H locs cells slots Q (F0 m 149 ls [])) : W p l e R s m args below meth c H locs cells slots Q (F0 m 141 ls []) := by
  obtain ⟨hx, hb, hml, hown, hts, hK, hin⟩ := id C0
  refine lv_aload_n hx hb dX5_init_141 rfl (lv_at hl 2 rfl) ?_
  refine va_get (D := D) (ci := 5) (C := RX5) (ref := RX5) (T := TX5) (N := 8) (v := .ref (ad 5)) hx hb hts inlX5 hown hK hP 0 (z_ws_get yc_0) rfl 1 (by decide) (hts _ (zs1 _ (List.mem_of_getElem? (i := 19) rfl))) (fun _ h => h) rfl dX5_init_142 ?_
  refine z_callW (kc := 5) (M' := mX2_read) (n := 0) (av := []) (d := 73) (mk' := z_i) (own := RX5) ⟨hx, hb, hml, hown, hts⟩ dX5_init_145 ⟨zs6 _ (List.mem_of_getElem? (i := 2) rfl), zs1 _ (List.mem_of_getElem? (i := 18) rfl), zs6 _ (List.mem_of_getElem? (i := 5) rfl)⟩ (zs6 _ (List.mem_of_getElem? (i := 3) rfl)) (zs6 _ (List.mem_of_getElem? (i := 4) rfl)) yc_5 rfl (by decide +kernel) rfl ⟨by omega, Nat.le_trans (m := 2400) (Nat.le_of_ble_eq_true rfl) hR.2⟩ hf hl.1 (by decide) (kX2_read σ 73 (by decide)) hr hij hP hK (hE.kept hS.1.2.1) (fun H1 L hP1 hz hk hL => ?_)
  refine lv_pop hx hb dX5_init_148 rfl ?_
  exact kk H1 _ hP1 (z_Snext hAB hS hz hk hL)
end ZRD
