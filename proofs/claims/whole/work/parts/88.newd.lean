/-! aload_0, new .., putfield -/
section ZND
variable {p : Program} {l : Launch} {e : Env} {R : Room} {s : State} {m : MethodId} {args : Array Value} {below : List Frame} {meth : Method} {c : Code} {H : Heap} {locs : List Loc} {cells slots : Nat} {Q : State → Prop}
variable {cc : ByteArray} {nL : Nat} {own : String} {pc : Nat} {ls : Array Slot} {D : va_G} {cy : z_Cy} {A : Nat → Prop} {L : va_W} {H0 : Heap}
theorem z_mkC {pc2 ci N idxN idxI mc ms n fr lo h0 ci0 N0 k idx : Nat} {T T0 : u_T} {ty0 ty1 : Nat → FieldType} {fs fs0 av : List Value} {B : Nat → va_W → Prop} {M : z_M} {C : String} (C0 : z_K0 own cc nL p s m args meth c D cy) (hP : va_P D vwCl ((h0, .inr (ci0, fs)) :: L) H) (hD : va_D A ((h0, .inr (ci0, fs)) :: L)) (hS : va_S A H0 H locs) (hA : ∀ q, H0.size ≤ q → A q)
    (hM : ∀ q sz, Met l M.2.1 (z_wl M) { frames := fr, cells := mc, slots := ms, locals := lo } (z_Pn D cy q sz ci fs0 av) (z_Qn D q sz (B q)) mc ms (z_An q sz))
    (hc : vwCl[ci]? = some (M.1, T, N)) (hu : ∀ w ∈ u_ws M.1 T N, w ∈ wsL_law) (hty : ∀ k, k < N → parseFieldDescriptor (T k).2.2.1 = some (ty0 k)) (hfs : ∀ j, j < N → defaultValue (ty0 j) = vp_V fs0 j)
    (hcl : Cond.classLink own idxN M.1 ∈ wsL_law) (hinst : Cond.instantiable M.1 N ∈ wsL_law) (hini : Cond.initialized M.1 ∈ wsL_law) (hC : M.2.1.cls = M.1) (hname : M.2.1.name = "<init>") (hret : M.2.2.2.2 = none)
    (hlk : Cond.methodLink own idxI M.2.1 ∈ wsL_law ∨ va_Nw (.methodLinkNest own idxI M.2.1 RX5) s) (him : Cond.instanceMethod M.2.1 ∈ wsL_law) (hcd : Cond.code M.2.1 M.2.2.1 M.2.2.2.1 M.2.2.2.2 ∈ wsL_law) (hq : M.2.1.cls ≠ "java/lang/invoke/MethodHandle" ∧ M.2.1.cls ≠ "java/lang/invoke/VarHandle" ∧ (parseMethodDescriptor M.2.1.desc).map (fun d => d.parameters.length) = some n) (hn : av.length = n)
    (hcells : cells + 1 + mc ≤ R.cells) (hslots : slots + N + ms ≤ R.slots) (hR : fr + 1 ≤ R.frames ∧ 8 + (M.2.2.2.1 + 11) + lo ≤ R.locals) (hsz : ls.size = nL)
    (hda : decode cc pc = .ok (.aload_n 0, 1)) (hl0 : ls[0]? = some (.val (.ref h0))) (hd0 : decode cc (pc + 1) = .ok (.new idxN, 3)) (hd1 : decode cc (pc + 1 + 3) = .ok (.dup, 1))
    (hld : ∀ (q : Nat) (H1 : Heap) (cells slots : Nat), W p l e R s m args below meth c H1 locs cells slots Q (F0 m pc2 ls (av.reverse ++ .ref q :: .ref q :: [.ref h0])) → W p l e R s m args below meth c H1 locs cells slots Q (F0 m (pc + 1 + 4) ls (.ref q :: .ref q :: [.ref h0])))
    (hd2 : decode cc pc2 = .ok (.invokespecial idxI, 3)) (hd3 : decode cc (pc2 + 3) = .ok (.putfield idx, 3))
    (hc0 : vwCl[ci0]? = some (own, T0, N0)) (hu0 : ∀ w ∈ u_ws own T0 N0, w ∈ wsL_law) (hty0 : ∀ k, k < N0 → parseFieldDescriptor (T0 k).2.2.1 = some (ty1 k)) (hnm : ∀ a, a < N0 → ∀ b, b < N0 → a ≠ b → (T0 a).2.1 ≠ (T0 b).2.1) (hk : k < N0) (hlk0 : Cond.fieldLink own idx own (T0 k).2.1 (T0 k).2.2.1 ∈ wsL_law) (hdecl : (T0 k).1 = own) (hfin : (T0 k).2.2.2 = true) (hdT : parseFieldDescriptor (T0 k).2.2.1 = some (.object C)) (hlen : k < fs.length)
    (kk : ∀ (q : Nat) (w1 : va_W) (H1 : Heap) (locs1 : List Loc), B q w1 → va_P D vwCl ((h0, .inr (ci0, fs.set k (.ref q))) :: (L ++ w1)) H1 → va_D A ((h0, .inr (ci0, fs.set k (.ref q))) :: (L ++ w1)) → va_S A H0 H1 locs1 → W p l e R s m args below meth c H1 locs1 (cells + 1 + mc) (slots + N + ms) Q (F0 m (pc2 + 6) ls [])) : W p l e R s m args below meth c H locs cells slots Q (F0 m pc ls []) := by
  obtain ⟨hx, hb, hml, hown, hts, hK, hin⟩ := C0
  refine lv_aload_n hx hb hda rfl hl0 ?_
  refine z_newC (M := M) (B := B) (av := av) (mc := mc) (ms := ms) (fr := fr) (lo := lo) (pc2 := pc2) hx hb hml hown hts hK hP hD hS hA hM hc hu hty hfs hcl hinst hini hC hname hret hlk him hcd hq hn hcells hslots hR hsz (by simp [Value.category]) hd0 hd1 hld hd2 (fun q w1 H1 locs1 hB hP1 hD1 hS1 => ?_)
  refine va_putF (D := D) (ci := ci0) (v := .ref q) (ty := .object C) (C := own) (T := T0) (N := N0) hx hb hts hu0 ty1 hty0 hnm hown hK hP1 hD1 hS1 0 rfl hc0 k hk (hts _ hlk0) (fun _ h => by rw [hdecl] at h; exact h) hfin hin hdecl hdT rfl rfl hlen hd3 (fun H2 locs2 hP2 hD2 hS2 => ?_)
  exact kk q w1 H2 locs2 hB hP2 hD2 hS2
end ZND
