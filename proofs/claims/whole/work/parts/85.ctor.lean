/-! constructors: the cells of a world are made one by one -/
/-- what stays the same within a constructor -/
def z_K0 (own : String) (cc : ByteArray) (nL : Nat) (p : Program) (s : State) (m : MethodId) (args : Array Value) (meth : Method) (c : Code) (D : va_G) (cy : z_Cy) : Prop :=
  p.tables.exec = Jvm.exec ∧ c.code = cc ∧ c.maxLocals = nL ∧ s.vm.findClass own = some m.cls ∧ (∀ w ∈ wsL_law, w.before args s = true) ∧ va_K D vwCl (z_tys cy) s ∧ meth.name = "<init>"
theorem z_tyI {D : va_G} {cy : z_Cy} {cA : ClassId} {s : State} (hK : va_K D vwCl (z_tys cy ++ [(cA, .int)]) s) : cA = cy.1 := by
  have h1 : s.vm.findClass _ = some cA := (hK.2 3 (cA, .int) rfl).2
  have h2 : s.vm.findClass _ = some cy.1 := (hK.2 0 (cy.1, .int) rfl).2
  exact Option.some.inj (h1.symm.trans h2)
theorem z_tyB {D : va_G} {cy : z_Cy} {cA : ClassId} {s : State} (hK : va_K D vwCl (z_tys cy ++ [(cA, .boolean)]) s) : cA = cy.2.1 := by
  have h1 : s.vm.findClass _ = some cA := (hK.2 3 (cA, .boolean) rfl).2
  have h2 : s.vm.findClass _ = some cy.2.1 := (hK.2 1 (cy.2.1, .boolean) rfl).2
  exact Option.some.inj (h1.symm.trans h2)
section ZN
variable {p : Program} {l : Launch} {e : Env} {R : Room} {s : State} {m : MethodId} {args : Array Value} {below : List Frame} {meth : Method} {c : Code} {H : Heap} {locs : List Loc} {cells slots : Nat} {Q : State → Prop}
variable {cc : ByteArray} {nL : Nat} {own : String} {pc : Nat} {ls : Array Slot} {rest : List Value} {D : va_G} {cy : z_Cy} {A : Nat → Prop} {ws : va_W} {H0 : Heap}
/-- aload_0, the length, newarray int, putfield -/
theorem z_mkA {pc1 h0 ci N k idx N' : Nat} {T : u_T} {ty0 : Nat → FieldType} {fs : List Value} {n : Int32} (C0 : z_K0 own cc nL p s m args meth c D cy) (hP : va_P D vwCl ws H) (hD : va_D A ws) (hS : va_S A H0 H locs) (hA : ∀ q, H0.size ≤ q → A q)
    (hd0 : decode cc pc = .ok (.aload_n 0, 1)) (hl0 : ls[0]? = some (.val (.ref h0)))
    (hpu : W p l e R s m args below meth c H locs cells slots Q (F0 m pc1 ls [.int n, .ref h0]) → W p l e R s m args below meth c H locs cells slots Q (F0 m (pc + 1) ls [.ref h0]))
    (hd1 : decode cc pc1 = .ok (.newarray .int, 2)) (hd2 : decode cc (pc1 + 2) = .ok (.putfield idx, 3)) (harr : Cond.arrayClass .int ∈ wsL_law)
    (hn : ¬ n < 0) (hN : n.toNatClampNeg = N') (hbytes : N' * componentBytes .int ≤ 536870912) (hcells : cells + 1 ≤ R.cells) (hslots : slots + N' ≤ R.slots)
    (he : ws[0]? = some (h0, .inr (ci, fs))) (hc : vwCl[ci]? = some (own, T, N)) (hu : ∀ w ∈ u_ws own T N, w ∈ wsL_law) (hty : ∀ k, k < N → parseFieldDescriptor (T k).2.2.1 = some (ty0 k)) (hnm : ∀ a, a < N → ∀ b, b < N → a ≠ b → (T a).2.1 ≠ (T b).2.1) (hk : k < N) (hlk : Cond.fieldLink own idx own (T k).2.1 (T k).2.2.1 ∈ wsL_law) (hdecl : (T k).1 = own) (hfin : (T k).2.2.2 = true) (hdT : parseFieldDescriptor (T k).2.2.1 = some (.array .int)) (hlen : k < fs.length)
    (kk : ∀ (q : Nat) (H1 : Heap) (locs1 : List Loc), va_P D vwCl (ws.set 0 (h0, .inr (ci, fs.set k (.ref q))) ++ [(q, .inl (cy.1, N', .inl (fun _ => 0)))]) H1 → va_D A (ws.set 0 (h0, .inr (ci, fs.set k (.ref q))) ++ [(q, .inl (cy.1, N', .inl (fun _ => 0)))]) → va_S A H0 H1 locs1 → W p l e R s m args below meth c H1 locs1 (cells + 1) (slots + N') Q (F0 m (pc1 + 5) ls [])) : W p l e R s m args below meth c H locs cells slots Q (F0 m pc ls []) := by
  obtain ⟨hx, hb, hml, hown, hts, hK, hin⟩ := C0
  refine lv_aload_n hx hb hd0 rfl hl0 (hpu ?_)
  refine va_newa (atype := .int) (a0 := (N', .inl (fun _ => 0))) hx hb (hts _ harr) rfl hK hP hD hS hA (fun cA => rfl) hn hN hbytes hcells hslots hd1 (fun q cA H1 hK1 hP1 hD1 hS1 => ?_)
  have := z_tyI hK1
  subst this
  have hw0 : 0 < ws.length := (List.getElem?_eq_some_iff.mp he).1
  have he1 : (ws ++ [(q, .inl (cy.1, (N', .inl (fun _ => 0))))])[0]? = some (h0, .inr (ci, fs)) := by
    rw [List.getElem?_append_left hw0]; exact he
  refine va_putF (D := D) (ci := ci) (v := .ref q) (ty := .array .int) (C := own) (T := T) (N := N) hx hb hts hu ty0 hty hnm hown hK hP1 hD1 hS1 0 he1 hc k hk (hts _ hlk) (fun _ h => by rw [hdecl] at h; exact h) hfin hin hdecl hdT rfl rfl hlen hd2 (fun H2 locs2 hP2 hD2 hS2 => ?_)
  rw [List.set_append_left _ _ hw0] at hP2 hD2
  exact kk q H2 locs2 hP2 hD2 hS2
/-- aload_0, aload_1, putfield -/
theorem z_mkR {h0 h1 ci N k idx : Nat} {T : u_T} {ty0 : Nat → FieldType} {fs : List Value} {C : String} (C0 : z_K0 own cc nL p s m args meth c D cy) (hP : va_P D vwCl ws H) (hD : va_D A ws) (hS : va_S A H0 H locs)
    (hd0 : decode cc pc = .ok (.aload_n 0, 1)) (hl0 : ls[0]? = some (.val (.ref h0))) (hd1 : decode cc (pc + 1) = .ok (.aload_n 1, 1)) (hl1 : ls[1]? = some (.val (.ref h1))) (hd2 : decode cc (pc + 2) = .ok (.putfield idx, 3))
    (he : ws[0]? = some (h0, .inr (ci, fs))) (hc : vwCl[ci]? = some (own, T, N)) (hu : ∀ w ∈ u_ws own T N, w ∈ wsL_law) (hty : ∀ k, k < N → parseFieldDescriptor (T k).2.2.1 = some (ty0 k)) (hnm : ∀ a, a < N → ∀ b, b < N → a ≠ b → (T a).2.1 ≠ (T b).2.1) (hk : k < N) (hlk : Cond.fieldLink own idx own (T k).2.1 (T k).2.2.1 ∈ wsL_law) (hdecl : (T k).1 = own) (hfin : (T k).2.2.2 = true) (hdT : parseFieldDescriptor (T k).2.2.1 = some (.object C)) (hlen : k < fs.length)
    (kk : ∀ (H1 : Heap) (locs1 : List Loc), va_P D vwCl (ws.set 0 (h0, .inr (ci, fs.set k (.ref h1)))) H1 → va_D A (ws.set 0 (h0, .inr (ci, fs.set k (.ref h1)))) → va_S A H0 H1 locs1 → W p l e R s m args below meth c H1 locs1 cells slots Q (F0 m (pc + 5) ls [])) : W p l e R s m args below meth c H locs cells slots Q (F0 m pc ls []) := by
  obtain ⟨hx, hb, hml, hown, hts, hK, hin⟩ := C0
  refine lv_aload_n hx hb hd0 rfl hl0 ?_
  refine lv_aload_n hx hb hd1 rfl hl1 ?_
  exact va_putF (D := D) (ci := ci) (v := .ref h1) (ty := .object C) (C := own) (T := T) (N := N) hx hb hts hu ty0 hty hnm hown hK hP hD hS 0 he hc k hk (hts _ hlk) (fun _ h => by rw [hdecl] at h; exact h) hfin hin hdecl hdT rfl rfl hlen hd2 kk
/-- aload_0, a number, putfield -/
theorem z_mkI {pc1 h0 ci N k idx : Nat} {T : u_T} {ty0 : Nat → FieldType} {fs : List Value} {n : Int32} (C0 : z_K0 own cc nL p s m args meth c D cy) (hP : va_P D vwCl ws H) (hD : va_D A ws) (hS : va_S A H0 H locs)
    (hd0 : decode cc pc = .ok (.aload_n 0, 1)) (hl0 : ls[0]? = some (.val (.ref h0)))
    (hpu : W p l e R s m args below meth c H locs cells slots Q (F0 m pc1 ls [.int n, .ref h0]) → W p l e R s m args below meth c H locs cells slots Q (F0 m (pc + 1) ls [.ref h0])) (hd2 : decode cc pc1 = .ok (.putfield idx, 3))
    (he : ws[0]? = some (h0, .inr (ci, fs))) (hc : vwCl[ci]? = some (own, T, N)) (hu : ∀ w ∈ u_ws own T N, w ∈ wsL_law) (hty : ∀ k, k < N → parseFieldDescriptor (T k).2.2.1 = some (ty0 k)) (hnm : ∀ a, a < N → ∀ b, b < N → a ≠ b → (T a).2.1 ≠ (T b).2.1) (hk : k < N) (hlk : Cond.fieldLink own idx own (T k).2.1 (T k).2.2.1 ∈ wsL_law) (hdecl : (T k).1 = own) (hfin : (T k).2.2.2 = false) (hdT : parseFieldDescriptor (T k).2.2.1 = some .int) (hlen : k < fs.length)
    (kk : ∀ (H1 : Heap) (locs1 : List Loc), va_P D vwCl (ws.set 0 (h0, .inr (ci, fs.set k (.int n)))) H1 → va_D A (ws.set 0 (h0, .inr (ci, fs.set k (.int n)))) → va_S A H0 H1 locs1 → W p l e R s m args below meth c H1 locs1 cells slots Q (F0 m (pc1 + 3) ls [])) : W p l e R s m args below meth c H locs cells slots Q (F0 m pc ls []) := by
  obtain ⟨hx, hb, hml, hown, hts, hK, hin⟩ := C0
  refine lv_aload_n hx hb hd0 rfl hl0 (hpu ?_)
  exact va_put (D := D) (ci := ci) (v := .int n) (ty := .int) (C := own) (T := T) (N := N) hx hb hts hu ty0 hty hnm hown hK hP hD hS 0 he hc k hk (hts _ hlk) (fun _ h => by rw [hdecl] at h; exact h) hfin hdT rfl rfl hlen hd2 kk
/-- aload_0, Object.<init> -/
theorem z_mkO {h0 idx : Nat} (C0 : z_K0 own cc nL p s m args meth c D cy) (hd0 : decode cc 0 = .ok (.aload_n 0, 1)) (hl0 : ls[0]? = some (.val (.ref h0))) (hd1 : decode cc 1 = .ok (.invokespecial idx, 3)) (hlk : Cond.methodLink own idx objectInit ∈ wsL_law) (h2 : Cond.instanceMethod objectInit ∈ wsL_law) (h3 : Cond.code objectInit ⟨#[0xb1]⟩ 1 none ∈ wsL_law) (hsz : ls.size = nL) (hR : 1 ≤ R.frames ∧ 12 ≤ R.locals)
    (kk : W p l e R s m args below meth c H locs cells slots Q (F0 m 4 ls [])) : W p l e R s m args below meth c H locs cells slots Q (F0 m 0 ls []) := by
  obtain ⟨hx, hb, hml, hown, hts, hK, hin⟩ := C0
  refine lv_aload_n hx hb hd0 rfl hl0 ?_
  refine W.objInit hx hb hown (hts _ hlk) (hts _ h2) (hts _ h3) rfl (by rw [hml]; exact hsz) rfl hd1 hR.1 (by show 2 * 0 + 0 + 12 ≤ _; omega) ?_
  exact W.eq (g2 := F0 m 4 ls []) rfl kk
end ZN
/-- a constructor's start and end: h0 its object, sz the heap's size, fs its first fields, B what it makes -/
def z_An (h0 sz : Nat) : Nat → Prop := fun q => q = h0 ∨ sz ≤ q
def z_Pn (D : va_G) (cy : z_Cy) (h0 sz ci : Nat) (fs av : List Value) : Array Value → State → Prop :=
  va_Pc (.ref h0 :: av) (fun U => U.heap.size = sz ∧ va_P D vwCl [(h0, .inr (ci, fs))] U.heap ∧ va_K D vwCl (z_tys cy) U)
def z_Qn (D : va_G) (h0 sz : Nat) (B : va_W → Prop) : Array Value → State → Outcome → State → Prop :=
  fun _ st oc t => oc = .returned none ∧ (∃ ws, B ws ∧ va_P D vwCl ws t.heap ∧ va_D (z_An h0 sz) ws) ∧ va_F (z_An h0 sz) st t
theorem z_Dn {h0 sz : Nat} {e : va_E} : va_D (z_An h0 sz) [(h0, e)] := by
  refine ⟨fun i j p q hp hq _ => ?_, fun k q hq => ?_⟩
  · have h1 := (List.getElem?_eq_some_iff.mp hp).1
    have h2 := (List.getElem?_eq_some_iff.mp hq).1
    simp at h1 h2
    omega
  · have h1 := (List.getElem?_eq_some_iff.mp hq).1
    have : k = 0 := by simp at h1; omega
    subst this
    cases hq
    exact Or.inl rfl
abbrev z_ia (cy : z_Cy) (q n : Nat) : Nat × va_E := (q, .inl (cy.1, n, .inl (fun _ => 0)))
