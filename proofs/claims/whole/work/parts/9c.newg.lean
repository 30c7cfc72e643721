/-! new, dup, the constructor's call, with any contract -/
def z_QG (q sz : Nat) (G : Heap → Prop) : Array Value → State → Outcome → State → Prop := fun _ st oc t => oc = .returned none ∧ G t.heap ∧ va_F (z_An q sz) st t
section ZNG
variable {p : Program} {l : Launch} {e : Env} {R : Room} {s : State} {m : MethodId} {args : Array Value} {below : List Frame} {meth : Method} {c : Code} {H : Heap} {locs : List Loc} {cells slots : Nat} {Q : State → Prop}
variable {cc : ByteArray} {nL : Nat} {own : String} {pc : Nat} {ls : Array Slot} {st : List Value} {D : va_G} {cy : z_Cy} {A : Nat → Prop} {ws : va_W} {H0 : Heap}
theorem z_newG {ci N idxN idxI mc ms fr lo : Nat} {T : u_T} {ty0 : Nat → FieldType} {fs0 : List Value} {Pc : Nat → Nat → Array Value → State → Prop} {G : Nat → Nat → Heap → Prop} {M : z_M} (hx : p.tables.exec = Jvm.exec) (hb : c.code = cc) (hml : c.maxLocals = nL) (hown : s.vm.findClass own = some m.cls) (hts : ∀ w ∈ wsL_law, w.before args s = true) (hK : va_K D vwCl (z_tys cy) s) (hP : va_P D vwCl ws H) (hD : va_D A ws) (hS : va_S A H0 H locs) (hA : ∀ q, H0.size ≤ q → A q)
    (hM : ∀ q sz, Met l M.2.1 (z_wl M) { frames := fr, cells := mc, slots := ms, locals := lo } (Pc q sz) (z_QG q sz (G q sz)) mc ms (z_An q sz))
    (hbl : ∀ q sz, FrameBlind (Pc q sz))
    (hpre : ∀ (q : Nat) (H1 : Heap), va_P D vwCl [(q, .inr (ci, fs0))] H1 → A q → va_S A H0 H1 locs → ∀ U : State, U.heap = H1 → s.WarmedH U.vm → Pc q H1.size #[.ref q] U)
    (hc : vwCl[ci]? = some (M.1, T, N)) (hu : ∀ w ∈ u_ws M.1 T N, w ∈ wsL_law) (hty : ∀ k, k < N → parseFieldDescriptor (T k).2.2.1 = some (ty0 k)) (hfs : ∀ j, j < N → defaultValue (ty0 j) = vp_V fs0 j)
    (hcl : Cond.classLink own idxN M.1 ∈ wsL_law) (hinst : Cond.instantiable M.1 N ∈ wsL_law) (hini : Cond.initialized M.1 ∈ wsL_law) (hC : M.2.1.cls = M.1) (hname : M.2.1.name = "<init>") (hret : M.2.2.2.2 = none)
    (hlk : Cond.methodLink own idxI M.2.1 ∈ wsL_law) (him : Cond.instanceMethod M.2.1 ∈ wsL_law) (hcd : Cond.code M.2.1 M.2.2.1 M.2.2.2.1 M.2.2.2.2 ∈ wsL_law) (hq : M.2.1.cls ≠ "java/lang/invoke/MethodHandle" ∧ M.2.1.cls ≠ "java/lang/invoke/VarHandle" ∧ (parseMethodDescriptor M.2.1.desc).map (fun d => d.parameters.length) = some 0)
    (hcells : cells + 1 + mc ≤ R.cells) (hslots : slots + N + ms ≤ R.slots) (hR : fr + 1 ≤ R.frames ∧ 8 + (M.2.2.2.1 + 11) + lo ≤ R.locals) (hsz : ls.size = nL) (hcat : (st.map fun v => v.category).sum ≤ 7)
    (hd0 : decode cc pc = .ok (.new idxN, 3)) (hd1 : decode cc (pc + 3) = .ok (.dup, 1)) (hd2 : decode cc (pc + 4) = .ok (.invokespecial idxI, 3))
    (kk : ∀ (q sz : Nat) (H1 : Heap) (locs1 : List Loc), G q sz H1 → va_P D vwCl ws H1 → (∀ (k : Nat) (x : Nat × va_E), ws[k]? = some x → ¬ z_An q sz x.1) → (∀ x, z_An q sz x → A x) → va_S A H0 H1 locs1 → W p l e R s m args below meth c H1 locs1 (cells + 1 + mc) (slots + N + ms) Q (F0 m (pc + 7) ls (.ref q :: st))) : W p l e R s m args below meth c H locs cells slots Q (F0 m pc ls st) := by
  refine va_new (ci := ci) (fs := fs0) (C := M.1) (T := T) (N := N) hx hb hts hu ty0 hty hown (hts _ hcl) (hts _ hinst) (hts _ hini) hK hP hD hS hA hc hfs (by omega) (by omega) hd0 (fun q H1 hP1 hD1 hS1 => ?_)
  refine lv_dup hx hb hd1 rfl ?_
  have hq1 : (ws ++ [(q, .inr (ci, fs0))])[ws.length]? = some (q, .inr (ci, fs0)) := by simp
  have hPc : va_P D vwCl [(q, .inr (ci, fs0))] H1 := by
    intro k x hk
    have h1 := (List.getElem?_eq_some_iff.mp hk).1
    have : k = 0 := by simp at h1; omega
    subst this
    cases hk
    exact hP1 _ _ hq1
  have hap : ∀ (k : Nat) (x : Nat × va_E), ws[k]? = some x → x.1 < H1.size ∧ ¬ z_An q H1.size x.1 := by
    intro k x hk
    have hkl := (List.getElem?_eq_some_iff.mp hk).1
    have hk' : (ws ++ [(q, .inr (ci, fs0))])[k]? = some x := by rw [List.getElem?_append_left hkl]; exact hk
    have hlt := (hP1 k x hk').lt
    refine ⟨hlt, fun h => ?_⟩
    rcases h with h | h
    · have := hD1.1 k ws.length x _ hk' hq1 h
      omega
    · omega
  have hAq : A q := hD1.2 ws.length _ hq1
  have hrun : va_Run p l e R s m args below meth c H1 locs (cells + 1) (slots + N) mc ms (F0 m (pc + 4) ls (.ref q :: .ref q :: st)) (.ref q :: st) (z_QG q H1.size (G q H1.size) (Value.ref q :: ([] : List Value)).toArray) (z_An q H1.size) := by
    have cb : CallB R s args own idxI M.2.1 M.2.2.1 M.2.2.2.1 none (z_wl M) { frames := fr, cells := mc, slots := ms, locals := lo } mc ms 0 := callB_of (ws' := wsL_law) 0 hts (z_good hcd) (by show _ :: _ = _; rw [hret]) rfl rfl (by rw [hC]; exact hts _ hini) (hts _ hlk) hq hR
    exact va_runI (H := H1) (locs := locs) (cells := cells + 1) (slots := slots + N) (below := below) (meth := meth) (g := F0 m (pc + 4) ls (.ref q :: .ref q :: st)) (As := []) (b := q) (rest := .ref q :: st) (R := R) (p := p) (e := e) (l := l) ⟨hx, hb, hml, hown, hts⟩ (hM q H1.size) ⟨cb, hname, hts _ him⟩ ⟨hbl q H1.size, fun U hU hW => hpre q H1 hPc hAq hS1 U hU hW⟩ rfl rfl hsz rfl (by
        have h7 : ((Value.ref q :: st).map fun v => v.category).sum = 1 + (st.map fun v => v.category).sum := by simp [Value.category]
        show 2 * 0 + ((Value.ref q :: st).map fun v => v.category).sum ≤ 8
        omega) hd2 ⟨hcells, hslots⟩
  intro X hX Y
  obtain ⟨v, st₀, t, T', L, h0, X', hL, e1, e2, ⟨hv, hG, hz, hk⟩, go⟩ := hrun X hX Y
  cases hv
  rw [h0] at hz hk
  have hAn : ∀ x, z_An q H1.size x → A x := by
    intro x h
    rcases h with h | h
    · rw [h]; exact hAq
    · exact hA x (Nat.le_trans hS1.1 h)
  obtain ⟨t2, a1, b1⟩ := kk q H1.size T'.heap (locs ++ L) (by rw [e1]; exact hG)
    (by
      rw [e1]
      intro k x hk1
      have hkl := (List.getElem?_eq_some_iff.mp hk1).1
      have hk' : (ws ++ [(q, .inr (ci, fs0))])[k]? = some x := by rw [List.getElem?_append_left hkl]; exact hk1
      exact (hP1 k x hk').kept (hk x.1 (hap k x hk1).1 (hap k x hk1).2))
    (fun k x hk1 => (hap k x hk1).2) hAn
    ⟨Nat.le_trans hS1.1 (by rw [e1]; exact hz), fun x h1 h2 => by rw [e1, hk x (Nat.lt_of_lt_of_le h1 hS1.1) (fun z => h2 (hAn x z))]; exact hS1.2.1 x h1 h2, fun x hx1 => by
      rcases List.mem_append.mp hx1 with h | h
      · exact hS1.2.2 x h
      · exact hAn _ (hL x h)⟩ T' rfl X'
  exact ⟨t2, go t2 a1, b1⟩
end ZNG
