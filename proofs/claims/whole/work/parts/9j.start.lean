/-! from the law's entry -/
theorem z_blind5 {D : va_G} {cy : z_Cy} {q sz : Nat} {e0 : Nat → Nat} : FrameBlind (z_P5 D cy q sz e0) := by
  intro a U g mk h
  obtain ⟨q0, q1, q2, q3, q4, q5, q6, q7, q8⟩ := h
  exact ⟨q0, q1, q2, va_K.moved (u := U) (U := U.calling g mk a) (Vm.Alike.refl U.vm) q3, va_AO.moved (u := U) (U := U.calling g mk a) (Vm.Alike.refl U.vm) q4, va_Nw.same (u := U) (U := U.calling g mk a) rfl rfl q5, va_Nw.same (u := U) (U := U.calling g mk a) rfl rfl q6, va_Nw.same (u := U) (U := U.calling g mk a) rfl rfl q7, z_Env.same (u := U) rfl q8⟩
theorem z_blind6 {D : va_G} {cy : z_Cy} {q sz : Nat} {e0 : Nat → Nat} : FrameBlind (z_P6 D cy q sz e0) := by
  intro a U g mk h
  obtain ⟨q0, q1, q2, q3, q8⟩ := h
  exact ⟨q0, q1, q2, va_K.moved (u := U) (U := U.calling g mk a) (Vm.Alike.refl U.vm) q3, z_Env.same (u := U) rfl q8⟩
theorem z_env_at {s : State} {q : Nat} {e0 : Nat → Nat} {H1 : Heap} {locs : List Loc} (hE : z_Env e0 (fun a => s.heap.size ≤ a) s s.heap) (hAq : s.heap.size ≤ q) (hS1 : va_S (fun a => s.heap.size ≤ a) s.heap H1 locs) {U : State} (hW : s.WarmedH U.vm) : z_Env e0 (z_An q H1.size) U H1 :=
  z_Env.warm hW ((hE.le (A' := z_An q H1.size) (fun a h => by
    rcases h with h | h
    · rw [h]; exact hAq
    · exact Nat.le_trans hS1.1 h)).kept (fun a h1 _ => hS1.2.1 a h1 (Nat.not_le.mpr h1)))
section ZST
variable {p : Program} {l : Launch} {e : Env} {R : Room} {s : State} {m : MethodId} {below : List Frame} {meth : Method} {c : Code} {Q : State → Prop}
variable {b L : Nat} {xs : Nat → Int32} {ls : Array Slot}
set_option maxHeartbeats 4000000 in
set_option maxRecDepth 100000 in
theorem lw_start (hx : p.tables.exec = Jvm.exec) (hb : c.code = cL_law) (hml : c.maxLocals = 4) (hown : s.vm.findClass RL = some m.cls) (hts0 : ∀ w ∈ lw_tbl, w.before #[Value.ref b] s = true) (hgv : (Jvm.Cond.and given_1 narrow_1).before #[Value.ref b] s = true) (hX : va_X b L xs s s.heap) (hbl : b < s.heap.size) (hL : L ≤ 3072) (hl : lv_has ls 4 [(0, .ref b)]) (hR : 1000 ≤ R.frames ∧ 36000 ≤ R.locals) (hR2 : 1000 ≤ R.cells ∧ 20000 ≤ R.slots)
    (kk : ∀ (H : Heap) (locs : List Loc) (ls : Array Slot), va_S (fun q => s.heap.size ≤ q) s.heap H locs → W p l e R s m #[Value.ref b] below meth c H locs 402 8052 Q (F0 m 1197 ls [])) : W p l e R s m #[Value.ref b] below meth c s.heap [] 0 0 Q (F0 m 0 ls []) := by
  have hts : ∀ w ∈ wsL_law, w.before #[Value.ref b] s = true := fun w hw => hts0 w (wsL_law_in w hw)
  obtain ⟨e0, hE, hO, n1, n2, n3⟩ := z_env0 hts0 hgv
  obtain ⟨D, cy, hK⟩ := z_known hts hO
  obtain ⟨A, B, C, s1, s2, hpR, hpM⟩ := t0_both
  refine z_newG (A := fun q => s.heap.size ≤ q) (H0 := s.heap) (ws := []) (ci := 5) (T := TX5) (N := 8) (ty0 := tyX5) (fs0 := [.null, .null, .null, .null, .null, .null, .null, .int 0]) (mc := 200) (ms := 4000) (fr := 80) (lo := 2400) (M := mX5_init) (Pc := fun q sz => z_P5 D cy q sz e0) (G := fun q sz Hp => ∃ (ad : Nat → Nat) (σ : z_Mem), z_inj YC ad ∧ ad 0 = q ∧ (∀ a, z_A ad YC.length a → z_An q sz a) ∧ (∀ k, 1000 ≤ k → ad k = e0 k) ∧ va_P D vwCl (z_ws YC ad cy σ) Hp ∧ cG σ (g0 A B C)) hx hb hml hown hts hK (fun k x h => (by cases h)) ⟨fun i j p q h => (by cases h), fun k q h => (by cases h)⟩ va_S.rf (fun _ h => h) (fun q sz => nX5 l D cy q sz e0 hpR) (fun q sz => z_blind5)
    (fun q H1 hPq hAq hS1 U hU hW => ⟨rfl, by rw [hU], by rw [hU]; exact hPq, va_K.moved hW.alike hK, va_AO.moved hW.alike hO, va_Nw.warmM hW n1, va_Nw.warmM hW n2, va_Nw.warmM hW n3, by rw [hU]; exact z_env_at hE hAq hS1 hW⟩)
    rfl inlX5 tyX5_ok (fun j hj => by rcases (show j = 0 ∨ j = 1 ∨ j = 2 ∨ j = 3 ∨ j = 4 ∨ j = 5 ∨ j = 6 ∨ j = 7 by omega) with rfl | rfl | rfl | rfl | rfl | rfl | rfl | rfl <;> rfl) (zs1 _ (List.mem_of_getElem? (i := 0) rfl)) (zs1 _ (List.mem_of_getElem? (i := 1) rfl)) (zs1 _ (List.mem_of_getElem? (i := 2) rfl)) rfl rfl rfl (zs1 _ (List.mem_of_getElem? (i := 6) rfl)) (zs1 _ (List.mem_of_getElem? (i := 7) rfl)) (zs1 _ (List.mem_of_getElem? (i := 8) rfl)) ⟨by decide, by decide, by decide +kernel⟩ (by omega) (by omega) ⟨by omega, Nat.le_trans (m := 36000) (Nat.le_of_ble_eq_true rfl) hR.2⟩ hl.1 (by decide) dL_law_0 dL_law_3 dL_law_4 (fun q sz H locs hG _ _ hAn1 hS => ?_)
  obtain ⟨adC, σ, hij, hq, hsub, hadC, hP, hc⟩ := hG
  subst hq
  have hA : ∀ a, z_A adC YC.length a → s.heap.size ≤ a := fun a h => hAn1 a (hsub a h)
  refine lv_astore_n (lv' := [(1, .ref (adC 0)), (0, .ref b)]) hx hb dL_law_7 rfl hl (by decide) rfl (fun ls hl => ?_)
  refine z_newG (A := fun q => s.heap.size ≤ q) (H0 := s.heap) (ws := z_ws YC adC cy σ) (ci := 6) (T := TX6) (N := 44) (ty0 := tyX6) (fs0 := [.int 0, .null, .null, .int 0, .int 0, .null, .int 0, .int 0, .int 0, .null, .int 0, .null, .int 0, .int 0, .int 0, .int 0, .int 0, .int 0, .int 0, .int 0, .int 0, .int 0, .int 0, .int 0, .long 0, .int 0, .int 0, .int 0, .null, .null, .null, .int 0, .int 0, .null, .null, .int 0, .int 0, .int 0, .int 0, .int 0, .null, .null, .null, .null]) (mc := 200) (ms := 4000) (fr := 80) (lo := 2400) (M := mX6_init) (Pc := fun q sz => z_P6 D cy q sz e0) (G := fun q sz Hp => ∃ (ad : Nat → Nat), z_inj YM ad ∧ ad 0 = q ∧ (∀ a, z_A ad YM.length a → z_An q sz a) ∧ (∀ k, 1000 ≤ k → ad k = e0 k) ∧ va_P D vwCl (z_ws YM ad cy zM0) Hp) hx hb hml hown hts hK hP ((z_D hij).weaken (fun _ _ _ h => hA _ h)) hS (fun _ h => h) (fun q sz => nX6 l D cy q sz e0) (fun q sz => z_blind6)
    (fun q H1 hPq hAq hS1 U hU hW => ⟨rfl, by rw [hU], by rw [hU]; exact hPq, va_K.moved hW.alike hK, by rw [hU]; exact z_env_at hE hAq hS1 hW⟩)
    rfl inlX6 tyX6_ok (fun j hj => by rcases (show j = 0 ∨ j = 1 ∨ j = 2 ∨ j = 3 ∨ j = 4 ∨ j = 5 ∨ j = 6 ∨ j = 7 ∨ j = 8 ∨ j = 9 ∨ j = 10 ∨ j = 11 ∨ j = 12 ∨ j = 13 ∨ j = 14 ∨ j = 15 ∨ j = 16 ∨ j = 17 ∨ j = 18 ∨ j = 19 ∨ j = 20 ∨ j = 21 ∨ j = 22 ∨ j = 23 ∨ j = 24 ∨ j = 25 ∨ j = 26 ∨ j = 27 ∨ j = 28 ∨ j = 29 ∨ j = 30 ∨ j = 31 ∨ j = 32 ∨ j = 33 ∨ j = 34 ∨ j = 35 ∨ j = 36 ∨ j = 37 ∨ j = 38 ∨ j = 39 ∨ j = 40 ∨ j = 41 ∨ j = 42 ∨ j = 43 by omega) with rfl | rfl | rfl | rfl | rfl | rfl | rfl | rfl | rfl | rfl | rfl | rfl | rfl | rfl | rfl | rfl | rfl | rfl | rfl | rfl | rfl | rfl | rfl | rfl | rfl | rfl | rfl | rfl | rfl | rfl | rfl | rfl | rfl | rfl | rfl | rfl | rfl | rfl | rfl | rfl | rfl | rfl | rfl | rfl <;> rfl) (zs1 _ (List.mem_of_getElem? (i := 3) rfl)) (zs1 _ (List.mem_of_getElem? (i := 4) rfl)) (zs1 _ (List.mem_of_getElem? (i := 5) rfl)) rfl rfl rfl (zs10 _ (List.mem_of_getElem? (i := 3) rfl)) (zs10 _ (List.mem_of_getElem? (i := 4) rfl)) (zs10 _ (List.mem_of_getElem? (i := 5) rfl)) ⟨by decide, by decide, by decide +kernel⟩ (by omega) (by omega) ⟨by omega, Nat.le_trans (m := 36000) (Nat.le_of_ble_eq_true rfl) hR.2⟩ hl.1 (by decide) dL_law_8 dL_law_11 dL_law_12 (fun q sz H locs hG hP hno hAn2 hS => ?_)
  obtain ⟨adM, hij2, hq, hsub2, hadM, hP2⟩ := hG
  subst hq
  refine lv_astore_n (lv' := [(2, .ref (adM 0)), (1, .ref (adC 0)), (0, .ref b)]) hx hb dL_law_15 rfl hl (by decide) rfl (fun ls hl => ?_)
  refine lv_iconst (v := nI 0) hx hb dL_law_16 rfl ?_
  refine lv_istore_n (lv' := z_lls adC adM b 0) hx hb dL_law_17 rfl hl (by decide) rfl (fun ls hl => ?_)
  have hA2 : ∀ a, z_A adM YM.length a → s.heap.size ≤ a := fun a h => hAn2 a (hsub2 a h)
  have hap : ∀ a, z_A adC YC.length a → ¬ z_A adM YM.length a := by
    intro a h1 h2
    obtain ⟨k, hk, rfl⟩ := h1
    exact hno k _ (z_ws_get (List.getElem?_eq_getElem hk)) (hsub2 _ h2)
  have F : zLF p s m #[Value.ref b] c D cy b L xs adC adM := ⟨hx, hb, hml, hown, hts, hK, hX, hbl, hL, hij, hij2, hA, hA2, hap, (hE.ad (fun k hk => (hadC k hk).symm)).le hA, (hE.ad (fun k hk => (hadM k hk).symm)).le hA2⟩
  refine lw_loop F hR ⟨by omega, by omega⟩ (fun H locs ls hS => ?_) (L + 1) 0 (by omega) (Nat.zero_le _) σ zM0 (g0 A B C) H locs ls hl hc (m_init hpM) g0_W hP hP2 hS
  exact W.widen (k := 402) (n := 8052) (by omega) (by omega) (kk H locs ls hS)
end ZST
