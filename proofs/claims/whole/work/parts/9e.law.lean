/-! the classes and arrays are known -/
theorem z_known {args : Array Value} {s : State} (hts : ∀ w ∈ wsL_law, w.before args s = true) (hO : va_AO RX3 s) : ∃ (D : va_G) (cy : z_Cy), va_K D vwCl (z_tys cy) s := by
  obtain ⟨c0, i0, h0⟩ := u_known hts inlX0 (hts _ (zs1 _ (List.mem_of_getElem? (i := 21) rfl)))
  obtain ⟨c1, i1, h1⟩ := u_known hts inlX1 (hts _ (zs2 _ (List.mem_of_getElem? (i := 3) rfl)))
  obtain ⟨c2, i2, h2⟩ := u_known hts inlX2 (hts _ (zs1 _ (List.mem_of_getElem? (i := 17) rfl)))
  obtain ⟨c3, i3, h3⟩ := u_known hts inlX3 (hts _ (zs2 _ (List.mem_of_getElem? (i := 8) rfl)))
  obtain ⟨c4, i4, h4⟩ := u_known hts inlX4 (hts _ (zs1 _ (List.mem_of_getElem? (i := 13) rfl)))
  obtain ⟨c5, i5, h5⟩ := u_known hts inlX5 (hts _ (zs1 _ (List.mem_of_getElem? (i := 1) rfl)))
  obtain ⟨c6, i6, h6⟩ := u_known hts inlX6 (hts _ (zs1 _ (List.mem_of_getElem? (i := 4) rfl)))
  obtain ⟨cI, kI, compI, f1, f2, f3⟩ := Cond.arrayClass_spec (hts _ (zs2 _ (List.mem_of_getElem? (i := 13) rfl)))
  obtain ⟨cB, kB, compB, g1, g2, g3⟩ := Cond.arrayClass_spec (hts _ (zs10 _ (List.mem_of_getElem? (i := 18) rfl)))
  obtain ⟨comp, cS, kS, e1, e2, e3, e4, e5⟩ := Cond.arrayOver_spec hO
  have hC : ∀ (k : Nat) (q : vw_C), vwCl[k]? = some q → u_Kn s q.1 q.2.1 q.2.2 ((fun k => match k with | 0 => c0 | 1 => c1 | 2 => c2 | 3 => c3 | 4 => c4 | 5 => c5 | _ => c6 : Nat → ClassId) k) ((fun k => match k with | 0 => i0 | 1 => i1 | 2 => i2 | 3 => i3 | 4 => i4 | 5 => i5 | _ => i6 : Nat → Nat → Nat) k) := by
    intro k q hq
    have hk : k < 7 := (List.getElem?_eq_some_iff.mp hq).1
    rcases (show k = 0 ∨ k = 1 ∨ k = 2 ∨ k = 3 ∨ k = 4 ∨ k = 5 ∨ k = 6 by omega) with rfl | rfl | rfl | rfl | rfl | rfl | rfl <;> cases hq
    · exact h0
    · exact h1
    · exact h2
    · exact h3
    · exact h4
    · exact h5
    · exact h6
  refine ⟨(fun k => match k with | 0 => c0 | 1 => c1 | 2 => c2 | 3 => c3 | 4 => c4 | 5 => c5 | _ => c6, fun k => match k with | 0 => i0 | 1 => i1 | 2 => i2 | 3 => i3 | 4 => i4 | 5 => i5 | _ => i6), (cI, cB, cS), hC, fun k q hq => ?_⟩
  have hk : k < 3 := (List.getElem?_eq_some_iff.mp hq).1
  rcases (show k = 0 ∨ k = 1 ∨ k = 2 by omega) with rfl | rfl | rfl <;> cases hq
  · exact ⟨fun n z => ⟨fun k h => (by cases h), kI, f2, compI, f3⟩, f1⟩
  · exact ⟨fun n z => ⟨fun k h => (by cases h), kB, g2, compB, g3⟩, g1⟩
  · exact ⟨fun n z => ⟨fun k h => (by cases h), kS, e3, comp, e4⟩, kS, comp, e3, e4, e1, e5⟩
/-! the law: what stays the same in its loop -/
def zLF (p : Program) (s : State) (m : MethodId) (args : Array Value) (c : Code) (D : va_G) (cy : z_Cy) (b L : Nat) (xs : Nat → Int32) (adC adM : Nat → Nat) : Prop :=
  p.tables.exec = Jvm.exec ∧ c.code = cL_law ∧ c.maxLocals = 4 ∧ s.vm.findClass RL = some m.cls ∧ (∀ w ∈ wsL_law, w.before args s = true) ∧ va_K D vwCl (z_tys cy) s ∧ va_X b L xs s s.heap ∧ b < s.heap.size ∧ L ≤ 3072 ∧ z_inj YC adC ∧ z_inj YM adM ∧ (∀ q, z_A adC YC.length q → s.heap.size ≤ q) ∧ (∀ q, z_A adM YM.length q → s.heap.size ≤ q) ∧ (∀ q, z_A adC YC.length q → ¬ z_A adM YM.length q) ∧ z_Env adC (z_A adC YC.length) s s.heap ∧ z_Env adM (z_A adM YM.length) s s.heap
/-- a world beside the one that a call was over -/
theorem z_beside {Y Y2 : z_Lay} {D : va_G} {cy : z_Cy} {ad ad2 : Nat → Nat} {τ : z_Mem} {H H1 : Heap} (hap : ∀ q, z_A ad2 Y2.length q → ¬ z_A ad Y.length q) (hP : va_P D vwCl (z_ws Y2 ad2 cy τ) H) (hk : ∀ q : Nat, q < H.size → ¬ z_A ad Y.length q → H1[q]? = H[q]?) : va_P D vwCl (z_ws Y2 ad2 cy τ) H1 := by
  refine hP.kept (fun k x hx => ?_)
  have hlt := (hP k x hx).lt
  obtain ⟨c, h1, rfl⟩ := z_ws_at hx
  exact hk _ hlt (hap _ ⟨k, z_lt h1, rfl⟩)
theorem z_Sall {s : State} {Y : z_Lay} {ad : Nat → Nat} {H H1 : Heap} {locs L : List Loc} (hA : ∀ q, z_A ad Y.length q → s.heap.size ≤ q) (hS : va_S (fun q => s.heap.size ≤ q) s.heap H locs) (hz : H.size ≤ H1.size) (hk : ∀ q : Nat, q < H.size → ¬ z_A ad Y.length q → H1[q]? = H[q]?) (hL : ∀ q ∈ L, z_A ad Y.length q.base) : va_S (fun q => s.heap.size ≤ q) s.heap H1 (locs ++ L) :=
  ⟨Nat.le_trans hS.1 hz, fun q h1 h2 => (hk q (Nat.lt_of_lt_of_le h1 hS.1) (fun z => h2 (hA q z))).trans (hS.2.1 q h1 h2), fun q hq => (List.mem_append.mp hq).elim (hS.2.2 q) (fun h => hA _ (hL q h))⟩
section ZLAW
variable {p : Program} {l : Launch} {e : Env} {R : Room} {s : State} {m : MethodId} {args : Array Value} {below : List Frame} {meth : Method} {c : Code} {H : Heap} {locs : List Loc} {cells slots : Nat} {Q : State → Prop}
variable {D : va_G} {cy : z_Cy} {b L : Nat} {xs : Nat → Int32} {adC adM : Nat → Nat} {pc i : Nat} {ls : Array Slot} {rest : List Value}
abbrev z_lls (adC adM : Nat → Nat) (b i : Nat) : List (Nat × Value) := [(3, .int (nI i)), (2, .ref (adM 0)), (1, .ref (adC 0)), (0, .ref b)]
/-- script[i + k] -/
theorem lw_arg {k : Nat} {kn : Int} (F : zLF p s m args c D cy b L xs adC adM) (hS : va_S (fun q => s.heap.size ≤ q) s.heap H locs) (hl : lv_has ls 4 (z_lls adC adM b i)) (hik : i + k < L) (hkn : Int32.ofInt kn = nI k) (d0 : decode cL_law pc = .ok (.aload_n 0, 1)) (d1 : decode cL_law (pc + 1) = .ok (.iload_n 3, 1)) (d2 : decode cL_law (pc + 1 + 1) = .ok (.iconst kn, 1)) (d3 : decode cL_law (pc + 1 + 1 + 1) = .ok (.iadd, 1)) (d4 : decode cL_law (pc + 1 + 1 + 1 + 1) = .ok (.iaload, 1))
    (kk : W p l e R s m args below meth c H locs cells slots Q (F0 m (pc + 1 + 1 + 1 + 1 + 1) ls (.int (xs (i + k)) :: rest))) : W p l e R s m args below meth c H locs cells slots Q (F0 m pc ls rest) := by
  obtain ⟨hx, hb, hml, hown, hts, hK, hX, hbl, hL, -⟩ := F
  refine lv_aload_n hx hb d0 rfl (lv_at hl 3 rfl) ?_
  refine lv_iload_n hx hb d1 rfl (lv_at hl 0 rfl) ?_
  refine lv_iconst (v := nI k) hx hb d2 hkn ?_
  refine lv_iadd hx hb d3 ?_
  rw [nI_add]
  refine va_sld (b := b) (L := L) (xs := xs) hx hb hX hbl (Nat.not_le.mpr hbl) hS (vp_in_nI hik (by omega)) d4 ?_
  rw [nI_clamp (by omega)]
  exact kk
/-- a call of one of the two -/
theorem lw_call {β : Type} {Y Y2 : z_Lay} {ad ad2 : Nat → Nat} {σ σ1 τ : z_Mem} {M' : z_M} {d kc ci N n j : Nat} {ts : List Nat} {T : u_T} {mk' : β → Option z_V} {av : List z_V} {o1 : Option (β × z_Mem)} {r1 : β} (S : CallFix p m c cL_law 4 s args wsL_law RL) (hK : va_K D vwCl (z_tys cy) s) (hij : z_inj Y ad) (hA : ∀ q, z_A ad Y.length q → s.heap.size ≤ q) (hap : ∀ q, z_A ad2 Y2.length q → ¬ z_A ad Y.length q) (hE : z_Env ad (z_A ad Y.length) s s.heap) (hd : decode cL_law pc = .ok (.invokevirtual j, 3)) (hk : z_lk RL j M') (hi : Cond.instanceMethod M'.2.1 ∈ wsL_law) (hs : Cond.selects M'.2.1.cls M'.2.1 M'.2.1 ∈ wsL_law) (hY : Y[kc]? = some (.inl (ci, ts))) (hc : vwCl[ci]? = some (M'.2.1.cls, T, N)) (hq : M'.2.1.cls ≠ "java/lang/invoke/MethodHandle" ∧ M'.2.1.cls ≠ "java/lang/invoke/VarHandle" ∧ (parseMethodDescriptor M'.2.1.desc).map (fun d => d.parameters.length) = some n) (hn : av.length = n) (hR : d + 1 ≤ R.frames ∧ 8 + (M'.2.2.2.1 + 11) + 32 * d ≤ R.locals) (hf : cells ≤ R.cells ∧ slots ≤ R.slots) (hl : ls.size = 4) (hcs : (rest.map fun v => v.category).sum ≤ 8)
    (hcall : z_Call Y M' d mk' (zR kc :: av) σ o1) (ho : o1 = some (r1, σ1)) (hP : va_P D vwCl (z_ws Y ad cy σ) H) (hP2 : va_P D vwCl (z_ws Y2 ad2 cy τ) H) (hS : va_S (fun q => s.heap.size ≤ q) s.heap H locs)
    (kk : ∀ (H1 : Heap) (locs1 : List Loc), va_P D vwCl (z_ws Y ad cy σ1) H1 → va_P D vwCl (z_ws Y2 ad2 cy τ) H1 → va_S (fun q => s.heap.size ≤ q) s.heap H1 locs1 → W p l e R s m args below meth c H1 locs1 cells slots Q (F0 m (pc + 3) ls (((mk' r1).map (z_v ad)).toList ++ rest))) : W p l e R s m args below meth c H locs cells slots Q (F0 m pc ls ((av.map (z_v ad)).reverse ++ .ref (ad kc) :: rest)) :=
  z_callW S hd hk hi hs hY hc hq hn hR hf hl hcs hcall ho hij hP hK (hE.kept (fun a h1 _ => hS.2.1 a h1 (Nat.not_le.mpr h1))) (fun H1 L hP1 hz hk1 hL => kk H1 _ hP1 (z_beside hap hP2 hk1) (z_Sall hA hS hz hk1 hL))
end ZLAW
theorem z_lgself (x : Int64) : lg_cmp x x = 0 := by unfold lg_cmp; simp
