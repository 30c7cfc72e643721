/-! the constructor's tail: the first TEXT -/
section ZTL
variable {p : Program} {l : Launch} {e : Env} {R : Room} {s : State} {m : MethodId} {args : Array Value} {below : List Frame} {meth : Method} {c : Code} {H : Heap} {locs : List Loc} {cells slots : Nat} {Q : State → Prop}
variable {ls : Array Slot} {D : va_G} {cy : z_Cy} {ad : Nat → Nat} {σ : z_Mem} {rest : List Value}
theorem wX5_len (C0 : z_K0 RX5 cX5_init 3 p s m args meth c D cy) (hij : z_inj YC ad) (hP : va_P D vwCl (z_ws YC ad cy σ) H) (hE : z_Env ad (z_A ad YC.length) s s.heap) {locs0 : List Loc} (hS : va_S (z_A ad YC.length) s.heap H locs0) (hsz : ls.size = 3) (hcat : (rest.map fun v => v.category).sum ≤ 8) (hR : 40 ≤ R.frames ∧ 400 ≤ R.locals) (hf : cells ≤ R.cells ∧ slots ≤ R.slots)
    (kk : ∀ (H1 : Heap) (L : List Loc), va_P D vwCl (z_ws YC ad cy σ) H1 → H.size ≤ H1.size → (∀ q : Nat, q < H.size → ¬ z_A ad YC.length q → H1[q]? = H[q]?) → (∀ q ∈ L, z_A ad YC.length q.base) → W p l e R s m args below meth c H1 (locs ++ L) cells slots Q (F0 m 118 ls (.int 43 :: rest))) : W p l e R s m args below meth c H locs cells slots Q (F0 m 115 ls (.ref (ad 1000) :: rest)) := by
  obtain ⟨hx, hb, hml, hown, hts, hK, hin⟩ := C0
  exact z_callT (j := 0) (M' := mJ0_length) (n := 0) (av := []) (d := 1) (mk' := z_i) (own := RX5) ⟨hx, hb, hml, hown, hts⟩ dX5_init_115 (by decide) ⟨zs3 _ (List.mem_of_getElem? (i := 20) rfl), zs3 _ (List.mem_of_getElem? (i := 23) rfl), zs4 _ (List.mem_of_getElem? (i := 0) rfl)⟩ rfl (zs3 _ (List.mem_of_getElem? (i := 21) rfl)) (zs3 _ (List.mem_of_getElem? (i := 22) rfl)) (by decide +kernel) rfl ⟨by omega, Nat.le_trans (m := 400) (Nat.le_of_ble_eq_true rfl) hR.2⟩ hf hsz hcat (kJ0_length (by decide) 0) rfl hij hP hK hE hS kk
end ZTL
