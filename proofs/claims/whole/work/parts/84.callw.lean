/-! a call over a world, from any method -/
section ZW
variable {p : Program} {l : Launch} {e : Env} {R : Room} {s : State} {m : MethodId} {args : Array Value} {below : List Frame} {meth : Method} {c : Code} {H : Heap} {locs : List Loc} {cells slots : Nat} {Q : State → Prop}
variable {cc : ByteArray} {nL : Nat} {own : String} {pc i : Nat} {ls : Array Slot} {rest : List Value}
variable {β : Type} {Y : z_Lay} {M' : z_M} {d : Nat} {mk' : β → Option z_V} {σ σ1 : z_Mem} {r1 : β} {o1 : Option (β × z_Mem)} {D : va_G} {ad : Nat → Nat} {cy : z_Cy} {av : List z_V} {n : Nat}
theorem z_contW {r : Option Value} {a : Array Value} {st0 : List Value} (hr : va_Run p l e R s m args below meth c H locs cells slots 0 0 (F0 m pc ls st0) rest (z_Q Y D ad cy r σ1 a) (z_A ad Y.length))
    (kk : ∀ (H1 : Heap) (L : List Loc), va_P D vwCl (z_ws Y ad cy σ1) H1 → H.size ≤ H1.size → (∀ q : Nat, q < H.size → ¬ z_A ad Y.length q → H1[q]? = H[q]?) → (∀ q ∈ L, z_A ad Y.length q.base) → W p l e R s m args below meth c H1 (locs ++ L) cells slots Q (F0 m (pc + 3) ls (r.toList ++ rest))) : W p l e R s m args below meth c H locs cells slots Q (F0 m pc ls st0) := by
  intro T hT X
  obtain ⟨v, st₀, t, T', L, h0, X', hL, e1, e2, ⟨hv, hP, hz, hk⟩, st⟩ := hr T hT X
  cases hv
  rw [h0] at hz hk
  obtain ⟨t2, a1, b1⟩ := kk T'.heap L (by rw [e1]; exact hP) (by rw [e1]; exact hz) (fun q h1 h2 => by rw [e1]; exact hk q h1 h2) hL T' rfl X'
  exact ⟨t2, st t2 a1, b1⟩
theorem z_preW (hP : va_P D vwCl (z_ws Y ad cy σ) H) (hK : va_K D vwCl (z_tys cy) s) (hE : z_Env ad (z_A ad Y.length) s H) {U : State} (hU : U.heap = H) (hW : s.WarmedH U.vm) : z_Pc Y D ad cy av σ (av.map (z_v ad)).toArray U := by
  refine ⟨rfl, by rw [hU]; exact hP, va_K.moved hW.alike hK, ?_⟩
  rw [hU]
  exact hE.warm hW
theorem z_callW {kc ci N : Nat} {ts : List Nat} {T : u_T} (S : CallFix p m c cc nL s args wsL_law own) (hd : decode cc pc = .ok (.invokevirtual i, 3)) (hk : z_lk own i M') (hi : Cond.instanceMethod M'.2.1 ∈ wsL_law) (hs : Cond.selects M'.2.1.cls M'.2.1 M'.2.1 ∈ wsL_law) (hY : Y[kc]? = some (.inl (ci, ts))) (hc : vwCl[ci]? = some (M'.2.1.cls, T, N)) (hq : M'.2.1.cls ≠ "java/lang/invoke/MethodHandle" ∧ M'.2.1.cls ≠ "java/lang/invoke/VarHandle" ∧ (parseMethodDescriptor M'.2.1.desc).map (fun d => d.parameters.length) = some n) (hn : av.length = n) (hR : d + 1 ≤ R.frames ∧ 8 + (M'.2.2.2.1 + 11) + 32 * d ≤ R.locals) (hf : cells ≤ R.cells ∧ slots ≤ R.slots) (hl : ls.size = nL) (hcs : (rest.map fun v => v.category).sum ≤ 8)
    (hcall : z_Call Y M' d mk' (zR kc :: av) σ o1) (ho : o1 = some (r1, σ1)) (hij : z_inj Y ad) (hP : va_P D vwCl (z_ws Y ad cy σ) H) (hK : va_K D vwCl (z_tys cy) s) (hE : z_Env ad (z_A ad Y.length) s H)
    (kk : ∀ (H1 : Heap) (L : List Loc), va_P D vwCl (z_ws Y ad cy σ1) H1 → H.size ≤ H1.size → (∀ q : Nat, q < H.size → ¬ z_A ad Y.length q → H1[q]? = H[q]?) → (∀ q ∈ L, z_A ad Y.length q.base) → W p l e R s m args below meth c H1 (locs ++ L) cells slots Q (F0 m (pc + 3) ls (((mk' r1).map (z_v ad)).toList ++ rest))) : W p l e R s m args below meth c H locs cells slots Q (F0 m pc ls ((av.map (z_v ad)).reverse ++ .ref (ad kc) :: rest)) := by
  have hts := S.2.2.2.2
  have hM := hcall r1 σ1 ho l D ad cy hij
  have cb : CallB R s args own i M'.2.1 M'.2.2.1 M'.2.2.2.1 M'.2.2.2.2 (z_wl M') (z_rm d) 0 0 n := callB_of n hts (z_good hk.2.2) rfl rfl rfl (hts _ hk.2.1) (hts _ hk.1) hq hR
  have hrun := va_runV (H := H) (locs := locs) (cells := cells) (slots := slots) (below := below) (meth := meth) (g := F0 m pc ls ((av.map (z_v ad)).reverse ++ .ref (ad kc) :: rest)) (As := av.map (z_v ad)) (b := ad kc) (rest := rest) (R := R) (p := p) (e := e) (C := M'.2.1.cls) S hM ⟨cb, hts _ hi, hts _ hs⟩ ⟨z_blind, va_recv hK hP hc (z_ws_get hY), fun U hU hW => z_preW (av := zR kc :: av) hP hK hE hU hW⟩ rfl (by rw [List.length_map]; exact hn) hl rfl (by show 2 * 0 + _ ≤ 8; omega) hd ⟨hf.1, hf.2⟩
  exact z_contW hrun kk
/-- the same for a String constant's method -/
theorem z_callT {j : Nat} (S : CallFix p m c cc nL s args wsL_law own) (hd : decode cc pc = .ok (.invokevirtual i, 3)) (hj : j < 13) (hk : z_lk own i M') (hC : M'.2.1.cls = "java/lang/String") (hi : Cond.instanceMethod M'.2.1 ∈ wsL_law) (hs : Cond.selects M'.2.1.cls M'.2.1 M'.2.1 ∈ wsL_law) (hq : M'.2.1.cls ≠ "java/lang/invoke/MethodHandle" ∧ M'.2.1.cls ≠ "java/lang/invoke/VarHandle" ∧ (parseMethodDescriptor M'.2.1.desc).map (fun d => d.parameters.length) = some n) (hn : av.length = n) (hR : d + 1 ≤ R.frames ∧ 8 + (M'.2.2.2.1 + 11) + 32 * d ≤ R.locals) (hf : cells ≤ R.cells ∧ slots ≤ R.slots) (hl : ls.size = nL) (hcs : (rest.map fun v => v.category).sum ≤ 8)
    (hcall : z_Call Y M' d mk' (zR (1000 + j) :: av) σ o1) (ho : o1 = some (r1, σ1)) (hij : z_inj Y ad) (hP : va_P D vwCl (z_ws Y ad cy σ) H) (hK : va_K D vwCl (z_tys cy) s) (hE0 : z_Env ad (z_A ad Y.length) s s.heap) {locs0 : List Loc} (hS : va_S (z_A ad Y.length) s.heap H locs0)
    (kk : ∀ (H1 : Heap) (L : List Loc), va_P D vwCl (z_ws Y ad cy σ1) H1 → H.size ≤ H1.size → (∀ q : Nat, q < H.size → ¬ z_A ad Y.length q → H1[q]? = H[q]?) → (∀ q ∈ L, z_A ad Y.length q.base) → W p l e R s m args below meth c H1 (locs ++ L) cells slots Q (F0 m (pc + 3) ls (((mk' r1).map (z_v ad)).toList ++ rest))) : W p l e R s m args below meth c H locs cells slots Q (F0 m pc ls ((av.map (z_v ad)).reverse ++ .ref (ad (1000 + j)) :: rest)) := by
  have hts := S.2.2.2.2
  have hM := hcall r1 σ1 ho l D ad cy hij
  have cb : CallB R s args own i M'.2.1 M'.2.2.1 M'.2.2.2.1 M'.2.2.2.2 (z_wl M') (z_rm d) 0 0 n := callB_of n hts (z_good hk.2.2) rfl rfl rfl (hts _ hk.2.1) (hts _ hk.1) hq hR
  have hrec := vk_recv hE0.2.2.2.2.2.1 hj hS
  have hE : z_Env ad (z_A ad Y.length) s H := hE0.kept hS.2.1
  have hrun := va_runV (H := H) (locs := locs) (cells := cells) (slots := slots) (below := below) (meth := meth) (g := F0 m pc ls ((av.map (z_v ad)).reverse ++ .ref (ad (1000 + j)) :: rest)) (As := av.map (z_v ad)) (b := ad (1000 + j)) (rest := rest) (R := R) (p := p) (e := e) (C := M'.2.1.cls) S hM ⟨cb, hts _ hi, hts _ hs⟩ ⟨z_blind, by rw [hC]; exact hrec, fun U hU hW => z_preW (av := zR (1000 + j) :: av) hP hK hE hU hW⟩ rfl (by rw [List.length_map]; exact hn) hl rfl (by show 2 * 0 + _ ≤ 8; omega) hd ⟨hf.1, hf.2⟩
  exact z_contW hrun kk
end ZW
