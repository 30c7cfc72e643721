/-! calls -/
def z_catS (st : List z_V) : Nat := (st.map (fun v => match v with
  | .inr (.inl _) => 2
  | _ => 1)).sum
theorem z_catS_eq {ad : Nat → Nat} : ∀ (st : List z_V), ((st.map (z_v ad)).map fun v => v.category).sum = z_catS st
  | [] => rfl
  | .inl x :: r => by
    have h := z_catS_eq (ad := ad) r
    show 1 + ((r.map (z_v ad)).map fun v => v.category).sum = 1 + z_catS r
    rw [h]
  | .inr (.inl x) :: r => by
    have h := z_catS_eq (ad := ad) r
    show 2 + ((r.map (z_v ad)).map fun v => v.category).sum = 2 + z_catS r
    rw [h]
  | .inr (.inr x) :: r => by
    have h := z_catS_eq (ad := ad) r
    show 1 + ((r.map (z_v ad)).map fun v => v.category).sum = 1 + z_catS r
    rw [h]
section ZC
variable {p : Program} {l : Launch} {e : Env} {R : Room} {s : State} {m : MethodId} {args : Array Value} {below : List Frame} {meth : Method} {c : Code} {H : Heap} {locs : List Loc} {Q : State → Prop}
/-- behind a call over the world -/
theorem z_cont {Y : z_Lay} {D : va_G} {ad : Nat → Nat} {cy : z_Cy} {r : Option Value} {σ' : z_Mem} {a : Array Value} {pc : Nat} {ls : Array Slot} {st0 rest : List Value} (hr : va_Run p l e R s m args below meth c H locs 0 0 0 0 (F0 m pc ls st0) rest (z_Q Y D ad cy r σ' a) (z_A ad Y.length)) (hS : va_S (z_A ad Y.length) s.heap H locs)
    (kk : ∀ (H1 : Heap) (locs1 : List Loc), va_P D vwCl (z_ws Y ad cy σ') H1 → va_S (z_A ad Y.length) s.heap H1 locs1 → W p l e R s m args below meth c H1 locs1 0 0 Q (F0 m (pc + 3) ls (r.toList ++ rest))) : W p l e R s m args below meth c H locs 0 0 Q (F0 m pc ls st0) := by
  intro T hT X
  obtain ⟨v, st₀, t, T', L, h0, X', hL, e1, e2, ⟨hv, hP, hz, hk⟩, st⟩ := hr T hT X
  cases hv
  rw [h0] at hz hk
  obtain ⟨t2, a1, b1⟩ := kk T'.heap (locs ++ L) (by rw [e1]; exact hP)
    ⟨Nat.le_trans hS.1 (by rw [e1]; exact hz), fun q h1 h2 => by rw [e1, hk q (Nat.lt_of_lt_of_le h1 hS.1) h2]; exact hS.2.1 q h1 h2, fun q hq => by
      rcases List.mem_append.mp hq with h | h
      · exact hS.2.2 q h
      · exact hL q h⟩ T' rfl X'
  exact ⟨t2, st t2 a1, b1⟩
end ZC
/-- the callee's words among all -/
def z_lk (own : String) (i : Nat) (M' : z_M) : Prop := Cond.methodLink own i M'.2.1 ∈ wsL_law ∧ Cond.initialized M'.2.1.cls ∈ wsL_law ∧ Cond.code M'.2.1 M'.2.2.1 M'.2.2.2.1 M'.2.2.2.2 ∈ wsL_law
theorem z_good {M' : z_M} (h : Cond.code M'.2.1 M'.2.2.1 M'.2.2.2.1 M'.2.2.2.2 ∈ wsL_law) : GoodIn wsL_law (z_wl M') := by
  intro w hw
  have hm : w ∈ wsL_law := by
    rcases List.mem_cons.mp hw with rfl | h1
    · exact h
    · exact h1
  exact ⟨hm, good_of_word (List.all_eq_true.mp wsL_law_good w hm)⟩
theorem z_blind {Y : z_Lay} {D : va_G} {ad : Nat → Nat} {cy : z_Cy} {av : List z_V} {σ : z_Mem} : FrameBlind (z_Pc Y D ad cy av σ) := by
  intro a U g mk h
  obtain ⟨h0, h1, h2, h3⟩ := h
  exact ⟨h0, h1, va_K.moved (u := U) (U := U.calling g mk a) (Vm.Alike.refl U.vm) h2, z_Env.same (u := U) rfl h3⟩
section ZK
variable {α β : Type} {Y : z_Lay} {M M' : z_M} {d : Nat} {mk : α → Option z_V} {mk' : β → Option z_V} {pc i : Nat} {lv : List (Option z_V)} {st : List z_V} {σ : z_Mem} {o1 : Option (β × z_Mem)} {k : β → z_Mem → Option (α × z_Mem)}
theorem z_okPre {s U : State} {H : Heap} {locs : List Loc} {D : va_G} {ad : Nat → Nat} {cy : z_Cy} {av : List z_V} (hP : va_P D vwCl (z_ws Y ad cy σ) H) (hS : va_S (z_A ad Y.length) s.heap H locs) (hK : va_K D vwCl (z_tys cy) s) (hE : z_Env ad (z_A ad Y.length) s s.heap) (hU : U.heap = H) (hW : s.WarmedH U.vm) : z_Pc Y D ad cy av σ (av.map (z_v ad)).toArray U := by
  refine ⟨rfl, by rw [hU]; exact hP, va_K.moved hW.alike hK, ?_⟩
  rw [hU]
  exact (hE.warm hW).kept (fun a h1 h2 => hS.2.1 a h1 h2)
theorem z_invV {kc ci N n : Nat} {ts : List Nat} {T : u_T} {av : List z_V} {sk : List z_V} (hd : decode M.2.2.1 pc = .ok (.invokevirtual i, 3)) (hsk : sk = av.reverse ++ zR kc :: st) (hk : z_lk M.1 i M') (hi : Cond.instanceMethod M'.2.1 ∈ wsL_law) (hs : Cond.selects M'.2.1.cls M'.2.1 M'.2.1 ∈ wsL_law) (hY : Y[kc]? = some (.inl (ci, ts))) (hc : vwCl[ci]? = some (M'.2.1.cls, T, N)) (hq : M'.2.1.cls ≠ "java/lang/invoke/MethodHandle" ∧ M'.2.1.cls ≠ "java/lang/invoke/VarHandle" ∧ (parseMethodDescriptor M'.2.1.desc).map (fun d => d.parameters.length) = some n) (hn : av.length = n) (hm : M'.2.2.2.1 ≤ 13) (hcs : z_catS st ≤ 8)
    (hcall : z_Call Y M' d mk' (zR kc :: av) σ o1) (kk : ∀ r σ1, z_Go Y M (d + 1) mk (pc + 3) lv ((mk' r).toList ++ st) σ1 (k r σ1)) : z_Go Y M (d + 1) mk pc lv sk σ (z_bd o1 k) := by
  intro r σ' ho p l e s m args below meth c D ad cy F H locs ls hP hS hl
  obtain ⟨hx, hb, hr, hml, hown, hts, hlk, hK, hij, hE⟩ := id F
  subst hsk
  cases ho1 : o1 with
  | none => rw [ho1] at ho; simp [z_bd] at ho
  | some q =>
    obtain ⟨r1, σ1⟩ := q
    rw [ho1] at ho
    have ho : k r1 σ1 = some (r, σ') := ho
    have hM := hcall r1 σ1 ho1 l D ad cy hij
    have cb : CallB (z_rm (d + 1)) s args M.1 i M'.2.1 M'.2.2.1 M'.2.2.2.1 M'.2.2.2.2 (z_wl M') (z_rm d) 0 0 n := callB_of n hts (z_good hk.2.2) rfl rfl rfl (hts _ hk.2.1) (hts _ hk.1) hq ⟨Nat.le_refl _, by show 8 + (M'.2.2.2.1 + 11) + 32 * d ≤ 32 * (d + 1); omega⟩
    have hrun := va_runV (H := H) (locs := locs) (cells := 0) (slots := 0) (below := below) (meth := meth) (g := F0 m pc ls ((av.reverse ++ zR kc :: st).map (z_v ad))) (As := av.map (z_v ad)) (b := ad kc) (rest := st.map (z_v ad)) (R := z_rm (d + 1)) (p := p) (e := e) (C := M'.2.1.cls) ⟨hx, hb, hml, hown, hts⟩ hM ⟨cb, hts _ hi, hts _ hs⟩ ⟨z_blind, va_recv hK hP hc (z_ws_get hY), fun U hU hW => z_okPre hP hS hK hE hU hW⟩ rfl (by rw [List.length_map]; exact hn) hl.1 (by simp [z_v]) (by show 2 * 0 + _ ≤ 8; rw [z_catS_eq]; omega) hd ⟨Nat.le_refl _, Nat.le_refl _⟩
    refine z_cont hrun hS (fun H1 locs1 hP1 hS1 => ?_)
    have := kk r1 σ1 r σ' ho p l e s m args below meth c D ad cy F H1 locs1 ls hP1 hS1 hl
    rw [List.map_append] at this
    cases hmk : mk' r1 <;> simpa [hmk] using this
theorem z_invS {n : Nat} {av : List z_V} {sk : List z_V} (hd : decode M.2.2.1 pc = .ok (.invokestatic i, 3)) (hsk : sk = av.reverse ++ st) (hk : z_lk M.1 i M') (hi : Cond.static M'.2.1 ∈ wsL_law) (hq : M'.2.1.cls ≠ "java/lang/invoke/MethodHandle" ∧ M'.2.1.cls ≠ "java/lang/invoke/VarHandle" ∧ (parseMethodDescriptor M'.2.1.desc).map (fun d => d.parameters.length) = some n) (hn : av.length = n) (hm : M'.2.2.2.1 ≤ 13) (hcs : z_catS st ≤ 8)
    (hcall : z_Call Y M' d mk' av σ o1) (kk : ∀ r σ1, z_Go Y M (d + 1) mk (pc + 3) lv ((mk' r).toList ++ st) σ1 (k r σ1)) : z_Go Y M (d + 1) mk pc lv sk σ (z_bd o1 k) := by
  intro r σ' ho p l e s m args below meth c D ad cy F H locs ls hP hS hl
  obtain ⟨hx, hb, hr, hml, hown, hts, hlk, hK, hij, hE⟩ := id F
  subst hsk
  cases ho1 : o1 with
  | none => rw [ho1] at ho; simp [z_bd] at ho
  | some q =>
    obtain ⟨r1, σ1⟩ := q
    rw [ho1] at ho
    have ho : k r1 σ1 = some (r, σ') := ho
    have hM := hcall r1 σ1 ho1 l D ad cy hij
    have cb : CallB (z_rm (d + 1)) s args M.1 i M'.2.1 M'.2.2.1 M'.2.2.2.1 M'.2.2.2.2 (z_wl M') (z_rm d) 0 0 n := callB_of n hts (z_good hk.2.2) rfl rfl rfl (hts _ hk.2.1) (hts _ hk.1) hq ⟨Nat.le_refl _, by show 8 + (M'.2.2.2.1 + 11) + 32 * d ≤ 32 * (d + 1); omega⟩
    have hrun := va_runS (H := H) (locs := locs) (cells := 0) (slots := 0) (below := below) (meth := meth) (g := F0 m pc ls ((av.reverse ++ st).map (z_v ad))) (As := av.map (z_v ad)) (rest := st.map (z_v ad)) (R := z_rm (d + 1)) (p := p) (e := e) ⟨hx, hb, hml, hown, hts⟩ hM ⟨cb, hts _ hi⟩ ⟨z_blind, fun U hU hW => z_okPre hP hS hK hE hU hW⟩ rfl (by rw [List.length_map]; exact hn) hl.1 (by simp) (by show 2 * 0 + _ ≤ 8; rw [z_catS_eq]; omega) hd ⟨Nat.le_refl _, Nat.le_refl _⟩
    refine z_cont hrun hS (fun H1 locs1 hP1 hS1 => ?_)
    have := kk r1 σ1 r σ' ho p l e s m args below meth c D ad cy F H1 locs1 ls hP1 hS1 hl
    rw [List.map_append] at this
    cases hmk : mk' r1 <;> simpa [hmk] using this
/-- a static method of a nest mate: bounded, isUnder, called by Marsh -/
theorem z_invN {n : Nat} {av : List z_V} {sk : List z_V} (hd : decode M.2.2.1 pc = .ok (.invokestatic i, 3)) (hsk : sk = av.reverse ++ st) (hE0 : ∀ ad A U H, z_Env ad A U H → va_Nw (.methodLinkNest M.1 i M'.2.1 RX5) U) (hk1 : Cond.initialized M'.2.1.cls ∈ wsL_law) (hk2 : Cond.code M'.2.1 M'.2.2.1 M'.2.2.2.1 M'.2.2.2.2 ∈ wsL_law) (hi : Cond.static M'.2.1 ∈ wsL_law) (hq : M'.2.1.cls ≠ "java/lang/invoke/MethodHandle" ∧ M'.2.1.cls ≠ "java/lang/invoke/VarHandle" ∧ (parseMethodDescriptor M'.2.1.desc).map (fun d => d.parameters.length) = some n) (hn : av.length = n) (hm : M'.2.2.2.1 ≤ 13) (hcs : z_catS st ≤ 8)
    (hcall : z_Call Y M' d mk' av σ o1) (kk : ∀ r σ1, z_Go Y M (d + 1) mk (pc + 3) lv ((mk' r).toList ++ st) σ1 (k r σ1)) : z_Go Y M (d + 1) mk pc lv sk σ (z_bd o1 k) := by
  intro r σ' ho p l e s m args below meth c D ad cy F H locs ls hP hS hl
  obtain ⟨hx, hb, hr, hml, hown, hts, hlk, hK, hij, hE⟩ := id F
  subst hsk
  cases ho1 : o1 with
  | none => rw [ho1] at ho; simp [z_bd] at ho
  | some q =>
    obtain ⟨r1, σ1⟩ := q
    rw [ho1] at ho
    have ho : k r1 σ1 = some (r, σ') := ho
    have hM := hcall r1 σ1 ho1 l D ad cy hij
    have cb : va_CN (z_rm (d + 1)) s args M.1 i M'.2.1 RX5 M'.2.2.1 M'.2.2.2.1 M'.2.2.2.2 (z_wl M') (z_rm d) 0 0 n := va_cnB n hts (z_good hk2) rfl rfl rfl (hE0 _ _ _ _ hE) (hts _ hk1) hq ⟨Nat.le_refl _, by show 8 + (M'.2.2.2.1 + 11) + 32 * d ≤ 32 * (d + 1); omega⟩
    have hrun := va_runSN (H := H) (locs := locs) (cells := 0) (slots := 0) (below := below) (meth := meth) (g := F0 m pc ls ((av.reverse ++ st).map (z_v ad))) (As := av.map (z_v ad)) (rest := st.map (z_v ad)) (R := z_rm (d + 1)) (p := p) (e := e) ⟨hx, hb, hml, hown, hts⟩ hM ⟨cb, hts _ hi, trivial⟩ ⟨z_blind, fun U hU hW => z_okPre hP hS hK hE hU hW⟩ rfl (by rw [List.length_map]; exact hn) hl.1 (by simp) (by show 2 * 0 + _ ≤ 8; rw [z_catS_eq]; omega) hd ⟨Nat.le_refl _, Nat.le_refl _⟩
    refine z_cont hrun hS (fun H1 locs1 hP1 hS1 => ?_)
    have := kk r1 σ1 r σ' ho p l e s m args below meth c D ad cy F H1 locs1 ls hP1 hS1 hl
    rw [List.map_append] at this
    cases hmk : mk' r1 <;> simpa [hmk] using this
/-- a call of a String constant's method -/
theorem z_invT {n j : Nat} {av : List z_V} {sk : List z_V} (hd : decode M.2.2.1 pc = .ok (.invokevirtual i, 3)) (hsk : sk = av.reverse ++ zR (1000 + j) :: st) (hj : j < 13) (hk : z_lk M.1 i M') (hC : M'.2.1.cls = "java/lang/String") (hi : Cond.instanceMethod M'.2.1 ∈ wsL_law) (hs : Cond.selects M'.2.1.cls M'.2.1 M'.2.1 ∈ wsL_law) (hq : M'.2.1.cls ≠ "java/lang/invoke/MethodHandle" ∧ M'.2.1.cls ≠ "java/lang/invoke/VarHandle" ∧ (parseMethodDescriptor M'.2.1.desc).map (fun d => d.parameters.length) = some n) (hn : av.length = n) (hm : M'.2.2.2.1 ≤ 13) (hcs : z_catS st ≤ 8)
    (hcall : z_Call Y M' d mk' (zR (1000 + j) :: av) σ o1) (kk : ∀ r σ1, z_Go Y M (d + 1) mk (pc + 3) lv ((mk' r).toList ++ st) σ1 (k r σ1)) : z_Go Y M (d + 1) mk pc lv sk σ (z_bd o1 k) := by
  intro r σ' ho p l e s m args below meth c D ad cy F H locs ls hP hS hl
  obtain ⟨hx, hb, hr, hml, hown, hts, hlk, hK, hij, hE⟩ := id F
  subst hsk
  cases ho1 : o1 with
  | none => rw [ho1] at ho; simp [z_bd] at ho
  | some q =>
    obtain ⟨r1, σ1⟩ := q
    rw [ho1] at ho
    have ho : k r1 σ1 = some (r, σ') := ho
    have hM := hcall r1 σ1 ho1 l D ad cy hij
    have cb : CallB (z_rm (d + 1)) s args M.1 i M'.2.1 M'.2.2.1 M'.2.2.2.1 M'.2.2.2.2 (z_wl M') (z_rm d) 0 0 n := callB_of n hts (z_good hk.2.2) rfl rfl rfl (hts _ hk.2.1) (hts _ hk.1) hq ⟨Nat.le_refl _, by show 8 + (M'.2.2.2.1 + 11) + 32 * d ≤ 32 * (d + 1); omega⟩
    have hrec := vk_recv hE.2.2.2.2.2.1 hj hS
    have hrun := va_runV (H := H) (locs := locs) (cells := 0) (slots := 0) (below := below) (meth := meth) (g := F0 m pc ls ((av.reverse ++ zR (1000 + j) :: st).map (z_v ad))) (As := av.map (z_v ad)) (b := ad (1000 + j)) (rest := st.map (z_v ad)) (R := z_rm (d + 1)) (p := p) (e := e) (C := M'.2.1.cls) ⟨hx, hb, hml, hown, hts⟩ hM ⟨cb, hts _ hi, hts _ hs⟩ ⟨z_blind, by rw [hC]; exact hrec, fun U hU hW => z_okPre hP hS hK hE hU hW⟩ rfl (by rw [List.length_map]; exact hn) hl.1 (by simp [z_v]) (by show 2 * 0 + _ ≤ 8; rw [z_catS_eq]; omega) hd ⟨Nat.le_refl _, Nat.le_refl _⟩
    refine z_cont hrun hS (fun H1 locs1 hP1 hS1 => ?_)
    have := kk r1 σ1 r σ' ho p l e s m args below meth c D ad cy F H1 locs1 ls hP1 hS1 hl
    rw [List.map_append] at this
    cases hmk : mk' r1 <;> simpa [hmk] using this
end ZK
