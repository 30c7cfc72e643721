theorem z_tyS {D : va_G} {cy : z_Cy} {cA : ClassId} {s : State} (hK : va_K D vwCl (z_tys cy ++ [(cA, .object RX3)]) s) : cA = cy.2.2 := by
  obtain ⟨_, _, _, _, _, h1⟩ := (hK.2 3 (cA, .object RX3) rfl).2
  obtain ⟨_, _, _, _, _, h2⟩ := (hK.2 2 (cy.2.2, .object RX3) rfl).2
  exact Option.some.inj (h1.symm.trans h2)
abbrev z_ra (cy : z_Cy) (q n : Nat) (f : Nat → Option Nat) : Nat × va_E := (q, .inl (cy.2.2, n, .inr (.inr (.inr (.inr f)))))
section ZX5b
variable {p : Program} {l : Launch} {e : Env} {R : Room} {s : State} {m : MethodId} {args : Array Value} {below : List Frame} {meth : Method} {c : Code} {H : Heap} {locs : List Loc} {cells slots : Nat} {Q : State → Prop}
variable {ls : Array Slot} {D : va_G} {cy : z_Cy} {A : Nat → Prop} {H0 : Heap} {ws : va_W}
/-- one SHEET is made -/
theorem wX5_it {h0 y t : Nat} {fs : List Value} {f : Nat → Option Nat} {i j : Int32} (hN : va_Nw (.methodLinkNest RX5 51 yX3_init RX5) s) (C0 : z_K0 RX5 cX5_init 3 p s m args meth c D cy) (hP : va_P D vwCl ws H) (hD : va_D A ws) (hS : va_S A H0 H locs) (hA : ∀ q, H0.size ≤ q → A q) (hl : lv_has ls 3 [(2, .int i), (1, .ref t), (0, .ref h0)]) (hR : 40 ≤ R.frames ∧ 400 ≤ R.locals) (hc : cells + 2 ≤ R.cells) (hs : slots + 43 ≤ R.slots)
    (he : ws[0]? = some (h0, .inr (5, fs))) (hf : fs[6]? = some (.ref y)) (hy : ws[27]? = some (z_ra cy y 4 f)) (hi : vp_in i 4) (hi4 : ¬ (4 : Int32) ≤ i) (hj : i + 1 = j)
    (kk : ∀ (q r : Nat) (H : Heap) (locs : List Loc) (ls : Array Slot), va_P D vwCl ((ws ++ mkX3 cy q r).set 27 (z_ra cy y 4 (va_up f i.toNatClampNeg (some q)))) H → va_D A ((ws ++ mkX3 cy q r).set 27 (z_ra cy y 4 (va_up f i.toNatClampNeg (some q)))) → va_S A H0 H locs → lv_has ls 3 [(2, .int j), (1, .ref t), (0, .ref h0)] → W p l e R s m args below meth c H locs (cells + 2) (slots + 43) Q (F0 m 86 ls [])) : W p l e R s m args below meth c H locs cells slots Q (F0 m 86 ls []) := by
  obtain ⟨hx, hb, hml, hown, hts, hK, hin⟩ := id C0
  have h27 : 27 < ws.length := (List.getElem?_eq_some_iff.mp hy).1
  refine lv_iload_n hx hb dX5_init_86 rfl (lv_at hl 0 rfl) ?_
  refine lv_iconst hx hb dX5_init_87 rfl ?_
  refine lv_icmp_ge hx hb dX5_init_88 (tgt := 110) rfl (fun h => absurd h hi4) (fun _ => ?_)
  refine lv_aload_n hx hb dX5_init_91 rfl (lv_at hl 2 rfl) ?_
  refine va_get (D := D) (ci := 5) (C := RX5) (ref := RX5) (T := TX5) (N := 8) hx hb hts inlX5 hown hK hP 0 he rfl 6 (by decide) (hts _ (zs2 _ (List.mem_of_getElem? (i := 7) rfl))) (fun _ h => h) hf dX5_init_92 ?_
  refine lv_iload_n hx hb dX5_init_95 rfl (lv_at hl 0 rfl) ?_
  refine z_newC (n := 0) (M := mX3_init) (B := fun q ws => ∃ q1, ws = mkX3 cy q q1) (av := []) (mc := 1) (ms := 40) (fr := 1) (lo := 12) (pc2 := 100) (ci := 3) (T := TX3) (N := 3) (ty0 := tyX3) (fs0 := [.null, .int 0, .int 0]) hx hb hml hown hts hK hP hD hS hA (fun q sz => nX3 l D cy q sz) rfl inlX3 tyX3_ok (fun j hj => by rcases (show j = 0 ∨ j = 1 ∨ j = 2 by omega) with rfl | rfl | rfl <;> rfl) (zs2 _ (List.mem_of_getElem? (i := 6) rfl)) (zs2 _ (List.mem_of_getElem? (i := 8) rfl)) (zs2 _ (List.mem_of_getElem? (i := 9) rfl)) rfl rfl rfl (Or.inr hN) (zs3 _ (List.mem_of_getElem? (i := 15) rfl)) (zs3 _ (List.mem_of_getElem? (i := 16) rfl)) ⟨by decide, by decide, by decide +kernel⟩ rfl (by omega) (by omega) ⟨by omega, Nat.le_trans (m := 400) (Nat.le_of_ble_eq_true rfl) hR.2⟩ hl.1 (by simp [Value.category]) dX5_init_96 dX5_init_99 (fun q H1 c1 c2 k => k) dX5_init_100 (fun q w1 H locs hB hP hD hS => ?_)
  obtain ⟨r, rfl⟩ := hB
  have hy2 : (ws ++ mkX3 cy q r)[27]? = some (z_ra cy y 4 f) := by rw [List.getElem?_append_left h27]; exact hy
  have hq2 : (ws ++ mkX3 cy q r)[ws.length]? = some (q, .inr (3, [.ref r, .int (-1), .int 0])) := by
    rw [List.getElem?_append_right (Nat.le_refl _), Nat.sub_self]; rfl
  refine va_astq (D := D) hx hb hK hP hD hS 27 2 ws.length 3 (r := (RX3, TX3, 3)) hy2 rfl hq2 rfl hi dX5_init_103 (fun H locs hP hD hS => ?_)
  refine lv_iinc (lv' := [(2, .int j), (1, .ref t), (0, .ref h0)]) hx hb dX5_init_104 hl (k := 0) rfl hj (by decide) rfl (fun ls hl => ?_)
  refine lv_goto hx hb dX5_init_107 (tgt := 86) rfl ?_
  exact kk q r H locs ls hP hD hS hl
end ZX5b
