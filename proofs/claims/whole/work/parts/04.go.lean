/-! a method: its class, name, code, locals, return type -/
abbrev z_M : Type := String × MethodName × ByteArray × Nat × Option FieldType
abbrev z_wl (M : z_M) : List Cond := .code M.2.1 M.2.2.1 M.2.2.2.1 M.2.2.2.2 :: wsL_law
abbrev z_rm (d : Nat) : Room := { frames := d, cells := 0, slots := 0, locals := 32 * d }
abbrev z_tys (cy : z_Cy) : List (ClassId × FieldType) := [(cy.1, .int), (cy.2.1, .boolean), (cy.2.2, .object RX3)]
/-- the words that stand beside the tables: String constants, the row of KINDS above, nest mates -/
def z_sIdx (i : Nat) : String × Nat × String := [(RX5, 52, "grips strength - cold ; hands 3 ; tires 1 ;"), (RX2, 121, "strength"), (RX2, 123, "next"), (RX2, 125, "number"), (RX2, 127, "hour"), (RX2, 129, "cold"), (RX2, 131, "many"), (RX2, 132, "grips"), (RX2, 134, "hands"), (RX2, 136, "tires"), (RX2, 138, "or"), (RX2, 140, "and"), (RX2, 142, "not")].getD i ("", 0, "")
def z_byt : List (List Int32) := [[103, 114, 105, 112, 115, 32, 115, 116, 114, 101, 110, 103, 116, 104, 32, 45, 32, 99, 111, 108, 100, 32, 59, 32, 104, 97, 110, 100, 115, 32, 51, 32, 59, 32, 116, 105, 114, 101, 115, 32, 49, 32, 59], [115, 116, 114, 101, 110, 103, 116, 104], [110, 101, 120, 116], [110, 117, 109, 98, 101, 114], [104, 111, 117, 114], [99, 111, 108, 100], [109, 97, 110, 121], [103, 114, 105, 112, 115], [104, 97, 110, 100, 115], [116, 105, 114, 101, 115], [111, 114], [97, 110, 100], [110, 111, 116]]
def z_len : List Nat := [43, 8, 4, 6, 4, 4, 4, 5, 5, 5, 2, 3, 3]
def z_ka (j : Nat) : Int32 := [-1, 0, 0, 1, 2, 0].getD j 0
def z_Env (ad : Nat → Nat) (A : Nat → Prop) (U : State) (H : Heap) : Prop :=
  va_Nw (.methodLinkNest RX0 101 yX5_bounded RX5) U ∧ va_Nw (.methodLinkNest RX0 107 yX5_isUnder RX5) U ∧
  va_Z RX5 "KIND_ABOVE" "[I" (.ref (ad 2000)) A U H ∧ va_T .int (ad 2000) 6 (fun j => .int (z_ka j)) A U H ∧
  (∀ i, i < 13 → vk_R (z_sIdx i).1 (z_sIdx i).2.1 (z_sIdx i).2.2 (ad (1000 + i)) U) ∧
  vk_S 13 z_len z_byt (fun i => ad (1000 + i)) (fun i => ad (1100 + i)) A U H ∧
  va_Z "java/lang/String" "COMPACT_STRINGS" "Z" (.int 1) A U H ∧
  va_Zq "jdk/internal/util/Preconditions" "SIOOBE_FORMATTER" "Ljava/util/function/BiFunction;" A U H
theorem z_Env.same {ad : Nat → Nat} {A : Nat → Prop} {u U : State} {H : Heap} (hv : U.vm = u.vm) (h : z_Env ad A u H) : z_Env ad A U H := by
  have hal : u.vm.Alike U.vm := by rw [hv]; exact Vm.Alike.refl _
  obtain ⟨h1, h2, h3, h4, h5, h6, h7, h8⟩ := h
  exact ⟨va_Nw.same rfl hv.symm h1, va_Nw.same rfl hv.symm h2, va_Z.moved hal h3, va_T.moved hal h4, fun i hi => vk_R.same hv (h5 i hi), vk_S.moved hal h6, va_Z.moved hal h7, va_Zq.moved hal h8⟩
theorem z_Env.warm {ad : Nat → Nat} {A : Nat → Prop} {s U : State} {H : Heap} (hW : s.WarmedH U.vm) (h : z_Env ad A s H) : z_Env ad A U H := by
  obtain ⟨h1, h2, h3, h4, h5, h6, h7, h8⟩ := h
  exact ⟨va_Nw.warmM hW h1, va_Nw.warmM hW h2, va_Z.moved hW.alike h3, va_T.moved hW.alike h4, fun i hi => vk_R.warm hW (h5 i hi), vk_S.moved hW.alike h6, va_Z.moved hW.alike h7, va_Zq.moved hW.alike h8⟩
theorem z_Env.kept {ad : Nat → Nat} {A : Nat → Prop} {U : State} {H H1 : Heap} (h : z_Env ad A U H) (hq : ∀ a : Nat, a < H.size → ¬ A a → H1[a]? = H[a]?) : z_Env ad A U H1 := by
  obtain ⟨h1, h2, h3, h4, h5, h6, h7, h8⟩ := h
  exact ⟨h1, h2, h3.kept hq, h4.kept hq, h5, h6.kept hq, h7.kept hq, h8.kept hq⟩
/-- the start and the end of a method over a world -/
def z_Pc (Y : z_Lay) (D : va_G) (ad : Nat → Nat) (cy : z_Cy) (av : List z_V) (σ : z_Mem) : Array Value → State → Prop :=
  va_Pc (av.map (z_v ad)) (fun U => va_P D vwCl (z_ws Y ad cy σ) U.heap ∧ va_K D vwCl (z_tys cy) U ∧ z_Env ad (z_A ad Y.length) U U.heap)
def z_Q (Y : z_Lay) (D : va_G) (ad : Nat → Nat) (cy : z_Cy) (r : Option Value) (σ' : z_Mem) : Array Value → State → Outcome → State → Prop :=
  fun _ st oc t => oc = .returned r ∧ va_P D vwCl (z_ws Y ad cy σ') t.heap ∧ va_F (z_A ad Y.length) st t
def z_inj (Y : z_Lay) (ad : Nat → Nat) : Prop := ∀ i j, i < Y.length → j < Y.length → ad i = ad j → i = j
/-- a call's contract: what the pure function o says, the machine does -/
def z_Call {α : Type} (Y : z_Lay) (M : z_M) (d : Nat) (mk : α → Option z_V) (av : List z_V) (σ : z_Mem) (o : Option (α × z_Mem)) : Prop :=
  ∀ r σ', o = some (r, σ') → ∀ (l : Launch) (D : va_G) (ad : Nat → Nat) (cy : z_Cy), z_inj Y ad →
    Met l M.2.1 (z_wl M) (z_rm d) (z_Pc Y D ad cy av σ) (z_Q Y D ad cy ((mk r).map (z_v ad)) σ') 0 0 (z_A ad Y.length)
def z_F (Y : z_Lay) (M : z_M) (p : Program) (s : State) (m : MethodId) (args : Array Value) (meth : Method) (c : Code) (D : va_G) (ad : Nat → Nat) (cy : z_Cy) : Prop :=
  p.tables.exec = Jvm.exec ∧ c.code = M.2.2.1 ∧ meth.sig.returnType = M.2.2.2.2 ∧ c.maxLocals = M.2.2.2.1 ∧ s.vm.findClass M.1 = some m.cls ∧ (∀ w ∈ wsL_law, w.before args s = true) ∧ meth.locks = false ∧ va_K D vwCl (z_tys cy) s ∧ z_inj Y ad ∧ z_Env ad (z_A ad Y.length) s s.heap
/-- at a place of a method: what the pure function o says, the machine does from there -/
def z_Go {α : Type} (Y : z_Lay) (M : z_M) (d : Nat) (mk : α → Option z_V) (pc : Nat) (lv : List (Option z_V)) (st : List z_V) (σ : z_Mem) (o : Option (α × z_Mem)) : Prop :=
  ∀ r σ', o = some (r, σ') → ∀ (p : Program) (l : Launch) (e : Env) (s : State) (m : MethodId) (args : Array Value) (below : List Frame) (meth : Method) (c : Code) (D : va_G) (ad : Nat → Nat) (cy : z_Cy), z_F Y M p s m args meth c D ad cy →
    ∀ (H : Heap) (locs : List Loc) (ls : Array Slot), va_P D vwCl (z_ws Y ad cy σ) H → va_S (z_A ad Y.length) s.heap H locs → z_has ad ls M.2.2.2.1 lv →
      W p l e (z_rm d) s m args below meth c H locs 0 0 (MQ below (z_Q Y D ad cy ((mk r).map (z_v ad)) σ') args s 0 0 (z_A ad Y.length)) (F0 m pc ls (st.map (z_v ad)))
abbrev z_i (r : Int32) : Option z_V := some (zI r)
abbrev z_l (r : Int64) : Option z_V := some (zL r)
abbrev z_u (_ : Unit) : Option z_V := none
abbrev z_r (k : Nat) : Option z_V := some (zR k)
def z_bd {α β : Type} (o : Option (α × z_Mem)) (k : α → z_Mem → Option (β × z_Mem)) : Option (β × z_Mem) := match o with
  | none => none
  | some q => k q.1 q.2
def z_gd {β : Type} (b : Prop) [Decidable b] (x : Option β) : Option β := if b then x else none
abbrev z_in (i : Int32) (n : Nat) : Prop := 0 ≤ i.toInt ∧ i.toInt < n
theorem z_in_vp {i : Int32} {n : Nat} (h : z_in i n) : vp_in i n := vp_in_iff.mpr h
abbrev z_x (i : Int32) : Nat := i.toNatClampNeg
theorem z_entry {α : Type} {Y : z_Lay} {M : z_M} {d : Nat} {mk : α → Option z_V} {av : List z_V} {σ : z_Mem} {o : Option (α × z_Mem)} {lv : List (Option z_V)} (hy : plainName M.2.1.cls = true) (hM : M.1 = M.2.1.cls) (hn : (z_lv av).length ≤ M.2.2.2.1) (hl : z_lv av ++ List.replicate (M.2.2.2.1 - (z_lv av).length) none = lv)
    (k : z_Go Y M d mk 0 lv [] σ o) : z_Call Y M d mk av σ o := by
  intro r σ' ho l D ad cy hi
  refine Met.ofW (cc := M.2.2.1) (maxL := M.2.2.2.1) (ret := M.2.2.2.2) hy rfl ?_
  intro p e s m args below meth c s₁ B hml hv
  obtain ⟨rfl, hP, hK, hE⟩ := hv
  have hts := atoms_spec (ws := z_wl M) B.pre
  have hown : s.vm.findClass M.1 = some m.cls := by rw [hM]; exact findClass_of_methodNamed B.named
  have hl0 := lv_entry (av.map (z_v ad)) (n := M.2.2.2.1) (by rw [z_lv_len]; exact hn)
  rw [lg_entry_eq]
  generalize (lg_sl (av.map (z_v ad)) ++ List.replicate (M.2.2.2.1 - (lg_sl (av.map (z_v ad))).length) Slot.unset).toArray = ls at hl0 ⊢
  have hl1 : z_has ad ls M.2.2.2.1 (z_lv av) := by
    have := hl0
    rw [z_lv_args] at this
    exact this
  refine k r σ' ho p l e s m _ below meth c D ad cy ⟨B.exec, B.bytes, B.returns, hml, hown, fun w hw => hts w (List.mem_cons_of_mem _ hw), B.notSynchronized, hK, hi, hE⟩ s.heap [] ls hP va_S.rf (z_has_mono hl1 (fun i v h => ?_))
  rw [← hl] at h
  by_cases hlt : i < (z_lv av).length
  · rwa [List.getElem?_append_left hlt] at h
  · rw [List.getElem?_append_right (by omega)] at h
    have := List.eq_of_mem_replicate (List.mem_of_getElem? h)
    cases this
section ZR
variable {α : Type} {Y : z_Lay} {M : z_M} {d : Nat} {mk : α → Option z_V} {pc : Nat} {lv : List (Option z_V)} {st : List z_V} {σ : z_Mem} {o oa ob : Option (α × z_Mem)}
theorem z_none : z_Go Y M d mk pc lv st σ none := fun r σ' ho => by cases ho
theorem z_weak {lv' : List (Option z_V)} (h : ∀ (i : Nat) (v : z_V), lv'[i]? = some (some v) → lv[i]? = some (some v)) (k : z_Go Y M d mk pc lv' st σ o) : z_Go Y M d mk pc lv st σ o :=
  fun r σ' ho p l e s m args below meth c D ad cy F H locs ls hP hS hl => k r σ' ho p l e s m args below meth c D ad cy F H locs ls hP hS (z_has_mono hl h)
theorem z_guard {b : Prop} {ib : Decidable b} (k : b → z_Go Y M d mk pc lv st σ o) : z_Go Y M d mk pc lv st σ (z_gd b o) := by
  intro r σ' ho
  unfold z_gd at ho
  split at ho
  next h => exact k h r σ' ho
  next h => cases ho
theorem z_iload_n {q : Fin 4} {i : Nat} {x : Int32} (hd : decode M.2.2.1 pc = .ok (.iload_n q, 1)) (hi : (q : Nat) = i) (hv : lv[i]? = some (some (zI x))) (k : z_Go Y M d mk (pc + 1) lv (zI x :: st) σ o) : z_Go Y M d mk pc lv st σ o := by
  intro r σ' ho p l e s m args below meth c D ad cy F H locs ls hP hS hl
  obtain ⟨hx, hb, hr, hml, hown, hts, hlk, hK, hij, hE⟩ := id F
  exact lv_iload_n hx hb hd hi (z_has_at hl hv) (k r σ' ho p l e s m args below meth c D ad cy F H locs ls hP hS hl)
theorem z_iload {i : Nat} {x : Int32} (hd : decode M.2.2.1 pc = .ok (.iload i, 2)) (hv : lv[i]? = some (some (zI x))) (k : z_Go Y M d mk (pc + 2) lv (zI x :: st) σ o) : z_Go Y M d mk pc lv st σ o := by
  intro r σ' ho p l e s m args below meth c D ad cy F H locs ls hP hS hl
  obtain ⟨hx, hb, hr, hml, hown, hts, hlk, hK, hij, hE⟩ := id F
  exact lv_iload hx hb hd (z_has_at hl hv) (k r σ' ho p l e s m args below meth c D ad cy F H locs ls hP hS hl)
theorem z_aload_n {q : Fin 4} {i : Nat} {x : Nat} (hd : decode M.2.2.1 pc = .ok (.aload_n q, 1)) (hi : (q : Nat) = i) (hv : lv[i]? = some (some (zR x))) (k : z_Go Y M d mk (pc + 1) lv (zR x :: st) σ o) : z_Go Y M d mk pc lv st σ o := by
  intro r σ' ho p l e s m args below meth c D ad cy F H locs ls hP hS hl
  obtain ⟨hx, hb, hr, hml, hown, hts, hlk, hK, hij, hE⟩ := id F
  exact lv_aload_n hx hb hd hi (z_has_at hl hv) (k r σ' ho p l e s m args below meth c D ad cy F H locs ls hP hS hl)
theorem z_aload {i : Nat} {x : Nat} (hd : decode M.2.2.1 pc = .ok (.aload i, 2)) (hv : lv[i]? = some (some (zR x))) (k : z_Go Y M d mk (pc + 2) lv (zR x :: st) σ o) : z_Go Y M d mk pc lv st σ o := by
  intro r σ' ho p l e s m args below meth c D ad cy F H locs ls hP hS hl
  obtain ⟨hx, hb, hr, hml, hown, hts, hlk, hK, hij, hE⟩ := id F
  exact lv_aload hx hb hd (z_has_at hl hv) (k r σ' ho p l e s m args below meth c D ad cy F H locs ls hP hS hl)
theorem z_lload_n {q : Fin 4} {i : Nat} {x : Int64} (hd : decode M.2.2.1 pc = .ok (.lload_n q, 1)) (hi : (q : Nat) = i) (hv : lv[i]? = some (some (zL x))) (k : z_Go Y M d mk (pc + 1) lv (zL x :: st) σ o) : z_Go Y M d mk pc lv st σ o := by
  intro r σ' ho p l e s m args below meth c D ad cy F H locs ls hP hS hl
  obtain ⟨hx, hb, hr, hml, hown, hts, hlk, hK, hij, hE⟩ := id F
  exact lv_lload_n hx hb hd hi (z_has_at hl hv) (k r σ' ho p l e s m args below meth c D ad cy F H locs ls hP hS hl)
theorem z_lload {i : Nat} {x : Int64} (hd : decode M.2.2.1 pc = .ok (.lload i, 2)) (hv : lv[i]? = some (some (zL x))) (k : z_Go Y M d mk (pc + 2) lv (zL x :: st) σ o) : z_Go Y M d mk pc lv st σ o := by
  intro r σ' ho p l e s m args below meth c D ad cy F H locs ls hP hS hl
  obtain ⟨hx, hb, hr, hml, hown, hts, hlk, hK, hij, hE⟩ := id F
  exact lv_lload hx hb hd (z_has_at hl hv) (k r σ' ho p l e s m args below meth c D ad cy F H locs ls hP hS hl)
theorem z_iconst {n : Int} {v : Int32} (hd : decode M.2.2.1 pc = .ok (.iconst n, 1)) (hv : Int32.ofInt n = v) (k : z_Go Y M d mk (pc + 1) lv (zI v :: st) σ o) : z_Go Y M d mk pc lv st σ o := by
  intro r σ' ho p l e s m args below meth c D ad cy F H locs ls hP hS hl
  obtain ⟨hx, hb, hr, hml, hown, hts, hlk, hK, hij, hE⟩ := id F
  exact lv_iconst hx hb hd hv (k r σ' ho p l e s m args below meth c D ad cy F H locs ls hP hS hl)
theorem z_bipush {n : Int} {v : Int32} (hd : decode M.2.2.1 pc = .ok (.bipush n, 2)) (hv : (Int8.ofInt n).toInt32 = v) (k : z_Go Y M d mk (pc + 2) lv (zI v :: st) σ o) : z_Go Y M d mk pc lv st σ o := by
  intro r σ' ho p l e s m args below meth c D ad cy F H locs ls hP hS hl
  obtain ⟨hx, hb, hr, hml, hown, hts, hlk, hK, hij, hE⟩ := id F
  exact lv_bipush hx hb hd hv (k r σ' ho p l e s m args below meth c D ad cy F H locs ls hP hS hl)
theorem z_sipush {n : Int} {v : Int32} (hd : decode M.2.2.1 pc = .ok (.sipush n, 3)) (hv : (Int16.ofInt n).toInt32 = v) (k : z_Go Y M d mk (pc + 3) lv (zI v :: st) σ o) : z_Go Y M d mk pc lv st σ o := by
  intro r σ' ho p l e s m args below meth c D ad cy F H locs ls hP hS hl
  obtain ⟨hx, hb, hr, hml, hown, hts, hlk, hK, hij, hE⟩ := id F
  exact lv_sipush hx hb hd hv (k r σ' ho p l e s m args below meth c D ad cy F H locs ls hP hS hl)
theorem z_lconst {n : Fin 2} {v : Int64} (hd : decode M.2.2.1 pc = .ok (.lconst n, 1)) (hv : Int64.ofNat (n : Nat) = v) (k : z_Go Y M d mk (pc + 1) lv (zL v :: st) σ o) : z_Go Y M d mk pc lv st σ o := by
  intro r σ' ho p l e s m args below meth c D ad cy F H locs ls hP hS hl
  obtain ⟨hx, hb, hr, hml, hown, hts, hlk, hK, hij, hE⟩ := id F
  exact lv_lconst hx hb hd hv (k r σ' ho p l e s m args below meth c D ad cy F H locs ls hP hS hl)
theorem z_ldc {i : Nat} {v : Int32} (hd : decode M.2.2.1 pc = .ok (.ldc i, 2)) (hw : Jvm.Cond.constant M.1 i v ∈ wsL_law) (k : z_Go Y M d mk (pc + 2) lv (zI v :: st) σ o) : z_Go Y M d mk pc lv st σ o := by
  intro r σ' ho p l e s m args below meth c D ad cy F H locs ls hP hS hl
  obtain ⟨hx, hb, hr, hml, hown, hts, hlk, hK, hij, hE⟩ := id F
  exact lv_ldc hx hb hown (hts _ hw) hd (k r σ' ho p l e s m args below meth c D ad cy F H locs ls hP hS hl)
theorem z_ldcw {i : Nat} {v : Int32} (hd : decode M.2.2.1 pc = .ok (.ldc_w i, 3)) (hw : Jvm.Cond.constant M.1 i v ∈ wsL_law) (k : z_Go Y M d mk (pc + 3) lv (zI v :: st) σ o) : z_Go Y M d mk pc lv st σ o := by
  intro r σ' ho p l e s m args below meth c D ad cy F H locs ls hP hS hl
  obtain ⟨hx, hb, hr, hml, hown, hts, hlk, hK, hij, hE⟩ := id F
  exact lv_ldcw hx hb hown (hts _ hw) hd (k r σ' ho p l e s m args below meth c D ad cy F H locs ls hP hS hl)
theorem z_ldc2 {i : Nat} {v : Int64} (hd : decode M.2.2.1 pc = .ok (.ldc2_w i, 3)) (hw : Jvm.Cond.constantLong M.1 i v ∈ wsL_law) (k : z_Go Y M d mk (pc + 3) lv (zL v :: st) σ o) : z_Go Y M d mk pc lv st σ o := by
  intro r σ' ho p l e s m args below meth c D ad cy F H locs ls hP hS hl
  obtain ⟨hx, hb, hr, hml, hown, hts, hlk, hK, hij, hE⟩ := id F
  exact lv_ldc2 hx hb hown (hts _ hw) hd (k r σ' ho p l e s m args below meth c D ad cy F H locs ls hP hS hl)
theorem z_iadd {x y : Int32} (hd : decode M.2.2.1 pc = .ok (.iadd, 1)) (k : z_Go Y M d mk (pc + 1) lv (zI (x + y) :: st) σ o) : z_Go Y M d mk pc lv (zI y :: zI x :: st) σ o := by
  intro r σ' ho p l e s m args below meth c D ad cy F H locs ls hP hS hl
  obtain ⟨hx, hb, hr, hml, hown, hts, hlk, hK, hij, hE⟩ := id F
  exact lv_iadd hx hb hd (k r σ' ho p l e s m args below meth c D ad cy F H locs ls hP hS hl)
theorem z_isub {x y : Int32} (hd : decode M.2.2.1 pc = .ok (.isub, 1)) (k : z_Go Y M d mk (pc + 1) lv (zI (x - y) :: st) σ o) : z_Go Y M d mk pc lv (zI y :: zI x :: st) σ o := by
  intro r σ' ho p l e s m args below meth c D ad cy F H locs ls hP hS hl
  obtain ⟨hx, hb, hr, hml, hown, hts, hlk, hK, hij, hE⟩ := id F
  exact lv_isub hx hb hd (k r σ' ho p l e s m args below meth c D ad cy F H locs ls hP hS hl)
theorem z_imul {x y : Int32} (hd : decode M.2.2.1 pc = .ok (.imul, 1)) (k : z_Go Y M d mk (pc + 1) lv (zI (x * y) :: st) σ o) : z_Go Y M d mk pc lv (zI y :: zI x :: st) σ o := by
  intro r σ' ho p l e s m args below meth c D ad cy F H locs ls hP hS hl
  obtain ⟨hx, hb, hr, hml, hown, hts, hlk, hK, hij, hE⟩ := id F
  exact lv_imul hx hb hd (k r σ' ho p l e s m args below meth c D ad cy F H locs ls hP hS hl)
theorem z_ishl {x y : Int32} (hd : decode M.2.2.1 pc = .ok (.ishl, 1)) (k : z_Go Y M d mk (pc + 1) lv (zI (x <<< (y &&& 31)) :: st) σ o) : z_Go Y M d mk pc lv (zI y :: zI x :: st) σ o := by
  intro r σ' ho p l e s m args below meth c D ad cy F H locs ls hP hS hl
  obtain ⟨hx, hb, hr, hml, hown, hts, hlk, hK, hij, hE⟩ := id F
  exact lv_ishl hx hb hd (k r σ' ho p l e s m args below meth c D ad cy F H locs ls hP hS hl)
theorem z_ishr {x y : Int32} (hd : decode M.2.2.1 pc = .ok (.ishr, 1)) (k : z_Go Y M d mk (pc + 1) lv (zI (x >>> (y &&& 31)) :: st) σ o) : z_Go Y M d mk pc lv (zI y :: zI x :: st) σ o := by
  intro r σ' ho p l e s m args below meth c D ad cy F H locs ls hP hS hl
  obtain ⟨hx, hb, hr, hml, hown, hts, hlk, hK, hij, hE⟩ := id F
  exact lv_ishr hx hb hd (k r σ' ho p l e s m args below meth c D ad cy F H locs ls hP hS hl)
theorem z_iand {x y : Int32} (hd : decode M.2.2.1 pc = .ok (.iand, 1)) (k : z_Go Y M d mk (pc + 1) lv (zI (x &&& y) :: st) σ o) : z_Go Y M d mk pc lv (zI y :: zI x :: st) σ o := by
  intro r σ' ho p l e s m args below meth c D ad cy F H locs ls hP hS hl
  obtain ⟨hx, hb, hr, hml, hown, hts, hlk, hK, hij, hE⟩ := id F
  exact lv_iand hx hb hd (k r σ' ho p l e s m args below meth c D ad cy F H locs ls hP hS hl)
theorem z_ior {x y : Int32} (hd : decode M.2.2.1 pc = .ok (.ior, 1)) (k : z_Go Y M d mk (pc + 1) lv (zI (x ||| y) :: st) σ o) : z_Go Y M d mk pc lv (zI y :: zI x :: st) σ o := by
  intro r σ' ho p l e s m args below meth c D ad cy F H locs ls hP hS hl
  obtain ⟨hx, hb, hr, hml, hown, hts, hlk, hK, hij, hE⟩ := id F
  exact lv_ior hx hb hd (k r σ' ho p l e s m args below meth c D ad cy F H locs ls hP hS hl)
theorem z_ixor {x y : Int32} (hd : decode M.2.2.1 pc = .ok (.ixor, 1)) (k : z_Go Y M d mk (pc + 1) lv (zI (x ^^^ y) :: st) σ o) : z_Go Y M d mk pc lv (zI y :: zI x :: st) σ o := by
  intro r σ' ho p l e s m args below meth c D ad cy F H locs ls hP hS hl
  obtain ⟨hx, hb, hr, hml, hown, hts, hlk, hK, hij, hE⟩ := id F
  exact lv_ixor hx hb hd (k r σ' ho p l e s m args below meth c D ad cy F H locs ls hP hS hl)
theorem z_iushr {x y : Int32} (hd : decode M.2.2.1 pc = .ok (.iushr, 1)) (k : z_Go Y M d mk (pc + 1) lv (zI (x.toUInt32 >>> (y.toUInt32 &&& Int32.toUInt32 31)).toInt32 :: st) σ o) : z_Go Y M d mk pc lv (zI y :: zI x :: st) σ o := by
  intro r σ' ho p l e s m args below meth c D ad cy F H locs ls hP hS hl
  obtain ⟨hx, hb, hr, hml, hown, hts, hlk, hK, hij, hE⟩ := id F
  exact lv_iushr hx hb hd rfl (k r σ' ho p l e s m args below meth c D ad cy F H locs ls hP hS hl)
theorem z_ineg {x : Int32} (hd : decode M.2.2.1 pc = .ok (.ineg, 1)) (k : z_Go Y M d mk (pc + 1) lv (zI (-x) :: st) σ o) : z_Go Y M d mk pc lv (zI x :: st) σ o := by
  intro r σ' ho p l e s m args below meth c D ad cy F H locs ls hP hS hl
  obtain ⟨hx, hb, hr, hml, hown, hts, hlk, hK, hij, hE⟩ := id F
  exact lv_ineg hx hb hd (k r σ' ho p l e s m args below meth c D ad cy F H locs ls hP hS hl)
theorem z_idiv {x y : Int32} {ib : Decidable (¬ y = 0)} (hd : decode M.2.2.1 pc = .ok (.idiv, 1)) (k : z_Go Y M d mk (pc + 1) lv (zI (x / y) :: st) σ o) : z_Go Y M d mk pc lv (zI y :: zI x :: st) σ (z_gd (¬ y = 0) o) := by
  refine z_guard fun hne => ?_
  intro r σ' ho p l e s m args below meth c D ad cy F H locs ls hP hS hl
  obtain ⟨hx, hb, hr, hml, hown, hts, hlk, hK, hij, hE⟩ := id F
  exact lv_idiv hx hb hd hne (k r σ' ho p l e s m args below meth c D ad cy F H locs ls hP hS hl)
theorem z_irem {x y : Int32} {ib : Decidable (¬ y = 0)} (hd : decode M.2.2.1 pc = .ok (.irem, 1)) (k : z_Go Y M d mk (pc + 1) lv (zI (x - x / y * y) :: st) σ o) : z_Go Y M d mk pc lv (zI y :: zI x :: st) σ (z_gd (¬ y = 0) o) := by
  refine z_guard fun hne => ?_
  intro r σ' ho p l e s m args below meth c D ad cy F H locs ls hP hS hl
  obtain ⟨hx, hb, hr, hml, hown, hts, hlk, hK, hij, hE⟩ := id F
  exact lv_irem hx hb hd hne (k r σ' ho p l e s m args below meth c D ad cy F H locs ls hP hS hl)
theorem z_ldiv {x y : Int64} {ib : Decidable (¬ y = 0)} (hd : decode M.2.2.1 pc = .ok (.ldiv, 1)) (k : z_Go Y M d mk (pc + 1) lv (zL (x / y) :: st) σ o) : z_Go Y M d mk pc lv (zL y :: zL x :: st) σ (z_gd (¬ y = 0) o) := by
  refine z_guard fun hne => ?_
  intro r σ' ho p l e s m args below meth c D ad cy F H locs ls hP hS hl
  obtain ⟨hx, hb, hr, hml, hown, hts, hlk, hK, hij, hE⟩ := id F
  exact lv_ldiv hx hb hd hne (k r σ' ho p l e s m args below meth c D ad cy F H locs ls hP hS hl)
theorem z_lrem {x y : Int64} {ib : Decidable (¬ y = 0)} (hd : decode M.2.2.1 pc = .ok (.lrem, 1)) (k : z_Go Y M d mk (pc + 1) lv (zL (x - x / y * y) :: st) σ o) : z_Go Y M d mk pc lv (zL y :: zL x :: st) σ (z_gd (¬ y = 0) o) := by
  refine z_guard fun hne => ?_
  intro r σ' ho p l e s m args below meth c D ad cy F H locs ls hP hS hl
  obtain ⟨hx, hb, hr, hml, hown, hts, hlk, hK, hij, hE⟩ := id F
  exact lv_lrem hx hb hd hne (k r σ' ho p l e s m args below meth c D ad cy F H locs ls hP hS hl)
theorem z_ladd {x y : Int64} (hd : decode M.2.2.1 pc = .ok (.ladd, 1)) (k : z_Go Y M d mk (pc + 1) lv (zL (x + y) :: st) σ o) : z_Go Y M d mk pc lv (zL y :: zL x :: st) σ o := by
  intro r σ' ho p l e s m args below meth c D ad cy F H locs ls hP hS hl
  obtain ⟨hx, hb, hr, hml, hown, hts, hlk, hK, hij, hE⟩ := id F
  exact lv_ladd hx hb hd (k r σ' ho p l e s m args below meth c D ad cy F H locs ls hP hS hl)
theorem z_lsub {x y : Int64} (hd : decode M.2.2.1 pc = .ok (.lsub, 1)) (k : z_Go Y M d mk (pc + 1) lv (zL (x - y) :: st) σ o) : z_Go Y M d mk pc lv (zL y :: zL x :: st) σ o := by
  intro r σ' ho p l e s m args below meth c D ad cy F H locs ls hP hS hl
  obtain ⟨hx, hb, hr, hml, hown, hts, hlk, hK, hij, hE⟩ := id F
  exact lv_lsub hx hb hd (k r σ' ho p l e s m args below meth c D ad cy F H locs ls hP hS hl)
theorem z_lmul {x y : Int64} (hd : decode M.2.2.1 pc = .ok (.lmul, 1)) (k : z_Go Y M d mk (pc + 1) lv (zL (x * y) :: st) σ o) : z_Go Y M d mk pc lv (zL y :: zL x :: st) σ o := by
  intro r σ' ho p l e s m args below meth c D ad cy F H locs ls hP hS hl
  obtain ⟨hx, hb, hr, hml, hown, hts, hlk, hK, hij, hE⟩ := id F
  exact lv_lmul hx hb hd (k r σ' ho p l e s m args below meth c D ad cy F H locs ls hP hS hl)
theorem z_lcmp {x y : Int64} (hd : decode M.2.2.1 pc = .ok (.lcmp, 1)) (k : z_Go Y M d mk (pc + 1) lv (zI (lg_cmp x y) :: st) σ o) : z_Go Y M d mk pc lv (zL y :: zL x :: st) σ o := by
  intro r σ' ho p l e s m args below meth c D ad cy F H locs ls hP hS hl
  obtain ⟨hx, hb, hr, hml, hown, hts, hlk, hK, hij, hE⟩ := id F
  exact W.lcmp hx hb hd (k r σ' ho p l e s m args below meth c D ad cy F H locs ls hP hS hl)
theorem z_i2l {x : Int32} (hd : decode M.2.2.1 pc = .ok (.i2l, 1)) (k : z_Go Y M d mk (pc + 1) lv (zL (x.toInt64) :: st) σ o) : z_Go Y M d mk pc lv (zI x :: st) σ o := by
  intro r σ' ho p l e s m args below meth c D ad cy F H locs ls hP hS hl
  obtain ⟨hx, hb, hr, hml, hown, hts, hlk, hK, hij, hE⟩ := id F
  exact lv_i2l hx hb hd rfl (k r σ' ho p l e s m args below meth c D ad cy F H locs ls hP hS hl)
theorem z_l2i {x : Int64} (hd : decode M.2.2.1 pc = .ok (.l2i, 1)) (k : z_Go Y M d mk (pc + 1) lv (zI (x.toInt32) :: st) σ o) : z_Go Y M d mk pc lv (zL x :: st) σ o := by
  intro r σ' ho p l e s m args below meth c D ad cy F H locs ls hP hS hl
  obtain ⟨hx, hb, hr, hml, hown, hts, hlk, hK, hij, hE⟩ := id F
  exact lv_l2i hx hb hd rfl (k r σ' ho p l e s m args below meth c D ad cy F H locs ls hP hS hl)
theorem z_i2b {x : Int32} (hd : decode M.2.2.1 pc = .ok (.i2b, 1)) (k : z_Go Y M d mk (pc + 1) lv (zI (x.toInt8.toInt32) :: st) σ o) : z_Go Y M d mk pc lv (zI x :: st) σ o := by
  intro r σ' ho p l e s m args below meth c D ad cy F H locs ls hP hS hl
  obtain ⟨hx, hb, hr, hml, hown, hts, hlk, hK, hij, hE⟩ := id F
  exact lv_i2b hx hb hd rfl (k r σ' ho p l e s m args below meth c D ad cy F H locs ls hP hS hl)
theorem z_i2s {x : Int32} (hd : decode M.2.2.1 pc = .ok (.i2s, 1)) (k : z_Go Y M d mk (pc + 1) lv (zI (x.toInt16.toInt32) :: st) σ o) : z_Go Y M d mk pc lv (zI x :: st) σ o := by
  intro r σ' ho p l e s m args below meth c D ad cy F H locs ls hP hS hl
  obtain ⟨hx, hb, hr, hml, hown, hts, hlk, hK, hij, hE⟩ := id F
  exact lv_i2s hx hb hd rfl (k r σ' ho p l e s m args below meth c D ad cy F H locs ls hP hS hl)
theorem z_icmp_eq {x y : Int32} {off : Int} {tgt : Nat} {ib : Decidable (x = y)} (hd : decode M.2.2.1 pc = .ok (.if_icmp .eq off, 3)) (ht : (pc : Int) + off = (tgt : Int)) (ka : x = y → z_Go Y M d mk tgt lv st σ oa) (kb : ¬ x = y → z_Go Y M d mk (pc + 3) lv st σ ob) : z_Go Y M d mk pc lv (zI y :: zI x :: st) σ (if x = y then oa else ob) := by
  intro r σ' ho p l e s m args below meth c D ad cy F H locs ls hP hS hl
  obtain ⟨hx, hb, hr, hml, hown, hts, hlk, hK, hij, hE⟩ := id F
  refine lv_icmp_eq hx hb hd ht (fun q => ?_) (fun q => ?_)
  · rw [if_pos q] at ho
    exact ka q r σ' ho p l e s m args below meth c D ad cy F H locs ls hP hS hl
  · rw [if_neg q] at ho
    exact kb q r σ' ho p l e s m args below meth c D ad cy F H locs ls hP hS hl
theorem z_if_eq {x : Int32} {off : Int} {tgt : Nat} {ib : Decidable (x = 0)} (hd : decode M.2.2.1 pc = .ok (.ifCond .eq off, 3)) (ht : (pc : Int) + off = (tgt : Int)) (ka : x = 0 → z_Go Y M d mk tgt lv st σ oa) (kb : ¬ x = 0 → z_Go Y M d mk (pc + 3) lv st σ ob) : z_Go Y M d mk pc lv (zI x :: st) σ (if x = 0 then oa else ob) := by
  intro r σ' ho p l e s m args below meth c D ad cy F H locs ls hP hS hl
  obtain ⟨hx, hb, hr, hml, hown, hts, hlk, hK, hij, hE⟩ := id F
  refine lv_if_eq hx hb hd ht (fun q => ?_) (fun q => ?_)
  · rw [if_pos q] at ho
    exact ka q r σ' ho p l e s m args below meth c D ad cy F H locs ls hP hS hl
  · rw [if_neg q] at ho
    exact kb q r σ' ho p l e s m args below meth c D ad cy F H locs ls hP hS hl
theorem z_icmp_lt {x y : Int32} {off : Int} {tgt : Nat} {ib : Decidable (x < y)} (hd : decode M.2.2.1 pc = .ok (.if_icmp .lt off, 3)) (ht : (pc : Int) + off = (tgt : Int)) (ka : x < y → z_Go Y M d mk tgt lv st σ oa) (kb : ¬ x < y → z_Go Y M d mk (pc + 3) lv st σ ob) : z_Go Y M d mk pc lv (zI y :: zI x :: st) σ (if x < y then oa else ob) := by
  intro r σ' ho p l e s m args below meth c D ad cy F H locs ls hP hS hl
  obtain ⟨hx, hb, hr, hml, hown, hts, hlk, hK, hij, hE⟩ := id F
  refine lv_icmp_lt hx hb hd ht (fun q => ?_) (fun q => ?_)
  · rw [if_pos q] at ho
    exact ka q r σ' ho p l e s m args below meth c D ad cy F H locs ls hP hS hl
  · rw [if_neg q] at ho
    exact kb q r σ' ho p l e s m args below meth c D ad cy F H locs ls hP hS hl
theorem z_if_lt {x : Int32} {off : Int} {tgt : Nat} {ib : Decidable (x < 0)} (hd : decode M.2.2.1 pc = .ok (.ifCond .lt off, 3)) (ht : (pc : Int) + off = (tgt : Int)) (ka : x < 0 → z_Go Y M d mk tgt lv st σ oa) (kb : ¬ x < 0 → z_Go Y M d mk (pc + 3) lv st σ ob) : z_Go Y M d mk pc lv (zI x :: st) σ (if x < 0 then oa else ob) := by
  intro r σ' ho p l e s m args below meth c D ad cy F H locs ls hP hS hl
  obtain ⟨hx, hb, hr, hml, hown, hts, hlk, hK, hij, hE⟩ := id F
  refine lv_if_lt hx hb hd ht (fun q => ?_) (fun q => ?_)
  · rw [if_pos q] at ho
    exact ka q r σ' ho p l e s m args below meth c D ad cy F H locs ls hP hS hl
  · rw [if_neg q] at ho
    exact kb q r σ' ho p l e s m args below meth c D ad cy F H locs ls hP hS hl
theorem z_icmp_ge {x y : Int32} {off : Int} {tgt : Nat} {ib : Decidable (y ≤ x)} (hd : decode M.2.2.1 pc = .ok (.if_icmp .ge off, 3)) (ht : (pc : Int) + off = (tgt : Int)) (ka : y ≤ x → z_Go Y M d mk tgt lv st σ oa) (kb : ¬ y ≤ x → z_Go Y M d mk (pc + 3) lv st σ ob) : z_Go Y M d mk pc lv (zI y :: zI x :: st) σ (if y ≤ x then oa else ob) := by
  intro r σ' ho p l e s m args below meth c D ad cy F H locs ls hP hS hl
  obtain ⟨hx, hb, hr, hml, hown, hts, hlk, hK, hij, hE⟩ := id F
  refine lv_icmp_ge hx hb hd ht (fun q => ?_) (fun q => ?_)
  · rw [if_pos q] at ho
    exact ka q r σ' ho p l e s m args below meth c D ad cy F H locs ls hP hS hl
  · rw [if_neg q] at ho
    exact kb q r σ' ho p l e s m args below meth c D ad cy F H locs ls hP hS hl
theorem z_if_ge {x : Int32} {off : Int} {tgt : Nat} {ib : Decidable (0 ≤ x)} (hd : decode M.2.2.1 pc = .ok (.ifCond .ge off, 3)) (ht : (pc : Int) + off = (tgt : Int)) (ka : 0 ≤ x → z_Go Y M d mk tgt lv st σ oa) (kb : ¬ 0 ≤ x → z_Go Y M d mk (pc + 3) lv st σ ob) : z_Go Y M d mk pc lv (zI x :: st) σ (if 0 ≤ x then oa else ob) := by
  intro r σ' ho p l e s m args below meth c D ad cy F H locs ls hP hS hl
  obtain ⟨hx, hb, hr, hml, hown, hts, hlk, hK, hij, hE⟩ := id F
  refine lv_if_ge hx hb hd ht (fun q => ?_) (fun q => ?_)
  · rw [if_pos q] at ho
    exact ka q r σ' ho p l e s m args below meth c D ad cy F H locs ls hP hS hl
  · rw [if_neg q] at ho
    exact kb q r σ' ho p l e s m args below meth c D ad cy F H locs ls hP hS hl
theorem z_icmp_gt {x y : Int32} {off : Int} {tgt : Nat} {ib : Decidable (y < x)} (hd : decode M.2.2.1 pc = .ok (.if_icmp .gt off, 3)) (ht : (pc : Int) + off = (tgt : Int)) (ka : y < x → z_Go Y M d mk tgt lv st σ oa) (kb : ¬ y < x → z_Go Y M d mk (pc + 3) lv st σ ob) : z_Go Y M d mk pc lv (zI y :: zI x :: st) σ (if y < x then oa else ob) := by
  intro r σ' ho p l e s m args below meth c D ad cy F H locs ls hP hS hl
  obtain ⟨hx, hb, hr, hml, hown, hts, hlk, hK, hij, hE⟩ := id F
  refine lv_icmp_gt hx hb hd ht (fun q => ?_) (fun q => ?_)
  · rw [if_pos q] at ho
    exact ka q r σ' ho p l e s m args below meth c D ad cy F H locs ls hP hS hl
  · rw [if_neg q] at ho
    exact kb q r σ' ho p l e s m args below meth c D ad cy F H locs ls hP hS hl
theorem z_if_gt {x : Int32} {off : Int} {tgt : Nat} {ib : Decidable (0 < x)} (hd : decode M.2.2.1 pc = .ok (.ifCond .gt off, 3)) (ht : (pc : Int) + off = (tgt : Int)) (ka : 0 < x → z_Go Y M d mk tgt lv st σ oa) (kb : ¬ 0 < x → z_Go Y M d mk (pc + 3) lv st σ ob) : z_Go Y M d mk pc lv (zI x :: st) σ (if 0 < x then oa else ob) := by
  intro r σ' ho p l e s m args below meth c D ad cy F H locs ls hP hS hl
  obtain ⟨hx, hb, hr, hml, hown, hts, hlk, hK, hij, hE⟩ := id F
  refine lv_if_gt hx hb hd ht (fun q => ?_) (fun q => ?_)
  · rw [if_pos q] at ho
    exact ka q r σ' ho p l e s m args below meth c D ad cy F H locs ls hP hS hl
  · rw [if_neg q] at ho
    exact kb q r σ' ho p l e s m args below meth c D ad cy F H locs ls hP hS hl
theorem z_icmp_le {x y : Int32} {off : Int} {tgt : Nat} {ib : Decidable (x ≤ y)} (hd : decode M.2.2.1 pc = .ok (.if_icmp .le off, 3)) (ht : (pc : Int) + off = (tgt : Int)) (ka : x ≤ y → z_Go Y M d mk tgt lv st σ oa) (kb : ¬ x ≤ y → z_Go Y M d mk (pc + 3) lv st σ ob) : z_Go Y M d mk pc lv (zI y :: zI x :: st) σ (if x ≤ y then oa else ob) := by
  intro r σ' ho p l e s m args below meth c D ad cy F H locs ls hP hS hl
  obtain ⟨hx, hb, hr, hml, hown, hts, hlk, hK, hij, hE⟩ := id F
  refine lv_icmp_le hx hb hd ht (fun q => ?_) (fun q => ?_)
  · rw [if_pos q] at ho
    exact ka q r σ' ho p l e s m args below meth c D ad cy F H locs ls hP hS hl
  · rw [if_neg q] at ho
    exact kb q r σ' ho p l e s m args below meth c D ad cy F H locs ls hP hS hl
theorem z_if_le {x : Int32} {off : Int} {tgt : Nat} {ib : Decidable (x ≤ 0)} (hd : decode M.2.2.1 pc = .ok (.ifCond .le off, 3)) (ht : (pc : Int) + off = (tgt : Int)) (ka : x ≤ 0 → z_Go Y M d mk tgt lv st σ oa) (kb : ¬ x ≤ 0 → z_Go Y M d mk (pc + 3) lv st σ ob) : z_Go Y M d mk pc lv (zI x :: st) σ (if x ≤ 0 then oa else ob) := by
  intro r σ' ho p l e s m args below meth c D ad cy F H locs ls hP hS hl
  obtain ⟨hx, hb, hr, hml, hown, hts, hlk, hK, hij, hE⟩ := id F
  refine lv_if_le hx hb hd ht (fun q => ?_) (fun q => ?_)
  · rw [if_pos q] at ho
    exact ka q r σ' ho p l e s m args below meth c D ad cy F H locs ls hP hS hl
  · rw [if_neg q] at ho
    exact kb q r σ' ho p l e s m args below meth c D ad cy F H locs ls hP hS hl
theorem z_icmp_ne {x y : Int32} {off : Int} {tgt : Nat} {ib : Decidable (x = y)} (hd : decode M.2.2.1 pc = .ok (.if_icmp .ne off, 3)) (ht : (pc : Int) + off = (tgt : Int)) (kb : ¬ x = y → z_Go Y M d mk tgt lv st σ ob) (ka : x = y → z_Go Y M d mk (pc + 3) lv st σ oa) : z_Go Y M d mk pc lv (zI y :: zI x :: st) σ (if x = y then oa else ob) := by
  intro r σ' ho p l e s m args below meth c D ad cy F H locs ls hP hS hl
  obtain ⟨hx, hb, hr, hml, hown, hts, hlk, hK, hij, hE⟩ := id F
  refine lv_icmp_ne hx hb hd ht (fun q => ?_) (fun q => ?_)
  · rw [if_neg q] at ho
    exact kb q r σ' ho p l e s m args below meth c D ad cy F H locs ls hP hS hl
  · rw [if_pos q] at ho
    exact ka q r σ' ho p l e s m args below meth c D ad cy F H locs ls hP hS hl
theorem z_if_ne {x : Int32} {off : Int} {tgt : Nat} {ib : Decidable (x = 0)} (hd : decode M.2.2.1 pc = .ok (.ifCond .ne off, 3)) (ht : (pc : Int) + off = (tgt : Int)) (kb : ¬ x = 0 → z_Go Y M d mk tgt lv st σ ob) (ka : x = 0 → z_Go Y M d mk (pc + 3) lv st σ oa) : z_Go Y M d mk pc lv (zI x :: st) σ (if x = 0 then oa else ob) := by
  intro r σ' ho p l e s m args below meth c D ad cy F H locs ls hP hS hl
  obtain ⟨hx, hb, hr, hml, hown, hts, hlk, hK, hij, hE⟩ := id F
  refine lv_if_ne hx hb hd ht (fun q => ?_) (fun q => ?_)
  · rw [if_neg q] at ho
    exact kb q r σ' ho p l e s m args below meth c D ad cy F H locs ls hP hS hl
  · rw [if_pos q] at ho
    exact ka q r σ' ho p l e s m args below meth c D ad cy F H locs ls hP hS hl
theorem z_goto {off : Int} {tgt : Nat} (hd : decode M.2.2.1 pc = .ok (.goto off, 3)) (ht : (pc : Int) + off = (tgt : Int)) (k : z_Go Y M d mk tgt lv st σ o) : z_Go Y M d mk pc lv st σ o := by
  intro r σ' ho p l e s m args below meth c D ad cy F H locs ls hP hS hl
  obtain ⟨hx, hb, hr, hml, hown, hts, hlk, hK, hij, hE⟩ := id F
  exact lv_goto hx hb hd ht (k r σ' ho p l e s m args below meth c D ad cy F H locs ls hP hS hl)
theorem z_dup {v : z_V} (hd : decode M.2.2.1 pc = .ok (.dup, 1)) (hv : z_nl (some v) = true) (k : z_Go Y M d mk (pc + 1) lv (v :: v :: st) σ o) : z_Go Y M d mk pc lv (v :: st) σ o := by
  intro r σ' ho p l e s m args below meth c D ad cy F H locs ls hP hS hl
  obtain ⟨hx, hb, hr, hml, hown, hts, hlk, hK, hij, hE⟩ := id F
  exact lv_dup hx hb hd (z_cat hv) (k r σ' ho p l e s m args below meth c D ad cy F H locs ls hP hS hl)
theorem z_pop {v : z_V} (hd : decode M.2.2.1 pc = .ok (.pop, 1)) (hv : z_nl (some v) = true) (k : z_Go Y M d mk (pc + 1) lv st σ o) : z_Go Y M d mk pc lv (v :: st) σ o := by
  intro r σ' ho p l e s m args below meth c D ad cy F H locs ls hP hS hl
  obtain ⟨hx, hb, hr, hml, hown, hts, hlk, hK, hij, hE⟩ := id F
  exact lv_pop hx hb hd (z_cat hv) (k r σ' ho p l e s m args below meth c D ad cy F H locs ls hP hS hl)
/-- a store of one word: the places that lv' still knows -/
def z_stOk (lv lv' : List (Option z_V)) (i : Nat) (v : z_V) : Prop := ∀ j w, lv'[j]? = some (some w) → (j = i ∧ w = v) ∨ (j ≠ i ∧ lv[j]? = some (some w) ∧ (j + 1 = i → z_nl (some w) = true))
def z_stOkL (lv lv' : List (Option z_V)) (i : Nat) (v : z_V) : Prop := ∀ j w, lv'[j]? = some (some w) → (j = i ∧ w = v) ∨ (j ≠ i ∧ j ≠ i + 1 ∧ lv[j]? = some (some w) ∧ (j + 1 = i → z_nl (some w) = true))
theorem z_istore_n {q : Fin 4} {i : Nat} {x : Int32} {lv' : List (Option z_V)} (hd : decode M.2.2.1 pc = .ok (.istore_n q, 1)) (hi : (q : Nat) = i) (hn : i < M.2.2.2.1) (hs : z_stOk lv lv' i (zI x)) (k : z_Go Y M d mk (pc + 1) lv' st σ o) : z_Go Y M d mk pc lv (zI x :: st) σ o := by
  intro r σ' ho p l e s m args below meth c D ad cy F H locs ls hP hS hl
  obtain ⟨hx, hb, hr, hml, hown, hts, hlk, hK, hij, hE⟩ := id F
  exact lv_istore_n hx hb hd hi hl hn rfl (fun ls' hl' => k r σ' ho p l e s m args below meth c D ad cy F H locs ls' hP hS (z_has_st (v := zI x) hl' hs))
theorem z_istore {i : Nat} {x : Int32} {lv' : List (Option z_V)} (hd : decode M.2.2.1 pc = .ok (.istore i, 2)) (hn : i < M.2.2.2.1) (hs : z_stOk lv lv' i (zI x)) (k : z_Go Y M d mk (pc + 2) lv' st σ o) : z_Go Y M d mk pc lv (zI x :: st) σ o := by
  intro r σ' ho p l e s m args below meth c D ad cy F H locs ls hP hS hl
  obtain ⟨hx, hb, hr, hml, hown, hts, hlk, hK, hij, hE⟩ := id F
  exact lv_istore hx hb hd hl hn rfl (fun ls' hl' => k r σ' ho p l e s m args below meth c D ad cy F H locs ls' hP hS (z_has_st (v := zI x) hl' hs))
theorem z_astore_n {q : Fin 4} {i : Nat} {x : Nat} {lv' : List (Option z_V)} (hd : decode M.2.2.1 pc = .ok (.astore_n q, 1)) (hi : (q : Nat) = i) (hn : i < M.2.2.2.1) (hs : z_stOk lv lv' i (zR x)) (k : z_Go Y M d mk (pc + 1) lv' st σ o) : z_Go Y M d mk pc lv (zR x :: st) σ o := by
  intro r σ' ho p l e s m args below meth c D ad cy F H locs ls hP hS hl
  obtain ⟨hx, hb, hr, hml, hown, hts, hlk, hK, hij, hE⟩ := id F
  exact lv_astore_n hx hb hd hi hl hn rfl (fun ls' hl' => k r σ' ho p l e s m args below meth c D ad cy F H locs ls' hP hS (z_has_st (v := zR x) hl' hs))
theorem z_astore {i : Nat} {x : Nat} {lv' : List (Option z_V)} (hd : decode M.2.2.1 pc = .ok (.astore i, 2)) (hn : i < M.2.2.2.1) (hs : z_stOk lv lv' i (zR x)) (k : z_Go Y M d mk (pc + 2) lv' st σ o) : z_Go Y M d mk pc lv (zR x :: st) σ o := by
  intro r σ' ho p l e s m args below meth c D ad cy F H locs ls hP hS hl
  obtain ⟨hx, hb, hr, hml, hown, hts, hlk, hK, hij, hE⟩ := id F
  exact lv_astore hx hb hd hl hn rfl (fun ls' hl' => k r σ' ho p l e s m args below meth c D ad cy F H locs ls' hP hS (z_has_st (v := zR x) hl' hs))
theorem z_lstore {i : Nat} {x : Int64} {lv' : List (Option z_V)} (hd : decode M.2.2.1 pc = .ok (.lstore i, 2)) (hn : i + 1 < M.2.2.2.1) (hs : z_stOkL lv lv' i (zL x)) (k : z_Go Y M d mk (pc + 2) lv' st σ o) : z_Go Y M d mk pc lv (zL x :: st) σ o := by
  intro r σ' ho p l e s m args below meth c D ad cy F H locs ls hP hS hl
  obtain ⟨hx, hb, hr, hml, hown, hts, hlk, hK, hij, hE⟩ := id F
  exact lv_lstore hx hb hd hl hn rfl (fun ls' hl' => k r σ' ho p l e s m args below meth c D ad cy F H locs ls' hP hS (z_has_stL (v := zL x) hl' hs))
/-! fields -/
theorem z_at_k {cl : List vw_C} {ci : Nat} {C : String} {T : u_T} {N : Nat} (h : cl[ci]? = some (C, T, N)) : cl[ci]? = some (C, T, N) := h
theorem z_get_fs {ad : Nat → Nat} {σ : z_Mem} {k j t : Nat} {ts : List Nat} (h : ts[j]? = some t) : (ts.mapIdx (fun j t => z_slot ad σ k j t))[j]? = some (z_slot ad σ k j t) := by simp [h]
theorem z_getf {k ci j t i N : Nat} {ts : List Nat} {C : String} {T : u_T} {v : z_V} (hd : decode M.2.2.1 pc = .ok (.getfield i, 3)) (hY : Y[k]? = some (.inl (ci, ts))) (hc : vwCl[ci]? = some (C, T, N)) (hu : ∀ w ∈ u_ws C T N, w ∈ wsL_law) (hw : Cond.fieldLink M.1 i C (T j).2.1 (T j).2.2.1 ∈ wsL_law) (hT : (T j).1 = C) (hj : j < N) (ht : ts[j]? = some t) (hv : ∀ ad, z_slot ad σ k j t = z_v ad v) (kk : z_Go Y M d mk (pc + 3) lv (v :: st) σ o) : z_Go Y M d mk pc lv (zR k :: st) σ o := by
  intro r σ' ho p l e s m args below meth c D ad cy F H locs ls hP hS hl
  obtain ⟨hx, hb, hr, hml, hown, hts, hlk, hK, hij, hE⟩ := id F
  exact va_get hx hb hts hu hown hK hP k (z_ws_get hY) hc j hj (hts _ hw) (fun x h => by rw [← hT]; exact h) (v := z_v ad v) (by rw [← hv ad]; exact z_get_fs ht) hd (kk r σ' ho p l e s m args below meth c D ad cy F H locs ls hP hS hl)
theorem z_getI {k ci j i N : Nat} {ts : List Nat} {C : String} {T : u_T} (hd : decode M.2.2.1 pc = .ok (.getfield i, 3)) (hY : Y[k]? = some (.inl (ci, ts))) (hc : vwCl[ci]? = some (C, T, N)) (hu : ∀ w ∈ u_ws C T N, w ∈ wsL_law) (hw : Cond.fieldLink M.1 i C (T j).2.1 (T j).2.2.1 ∈ wsL_law) (hT : (T j).1 = C) (hj : j < N) (ht : ts[j]? = some 0) (kk : z_Go Y M d mk (pc + 3) lv (zI (σ.1 k j) :: st) σ o) : z_Go Y M d mk pc lv (zR k :: st) σ o :=
  z_getf hd hY hc hu hw hT hj ht (fun _ => rfl) kk
theorem z_getL {k ci j i N : Nat} {ts : List Nat} {C : String} {T : u_T} (hd : decode M.2.2.1 pc = .ok (.getfield i, 3)) (hY : Y[k]? = some (.inl (ci, ts))) (hc : vwCl[ci]? = some (C, T, N)) (hu : ∀ w ∈ u_ws C T N, w ∈ wsL_law) (hw : Cond.fieldLink M.1 i C (T j).2.1 (T j).2.2.1 ∈ wsL_law) (hT : (T j).1 = C) (hj : j < N) (ht : ts[j]? = some 1) (kk : z_Go Y M d mk (pc + 3) lv (zL (σ.2 k j) :: st) σ o) : z_Go Y M d mk pc lv (zR k :: st) σ o :=
  z_getf hd hY hc hu hw hT hj ht (fun _ => rfl) kk
theorem z_getR {k ci j i N t : Nat} {ts : List Nat} {C : String} {T : u_T} (hd : decode M.2.2.1 pc = .ok (.getfield i, 3)) (hY : Y[k]? = some (.inl (ci, ts))) (hc : vwCl[ci]? = some (C, T, N)) (hu : ∀ w ∈ u_ws C T N, w ∈ wsL_law) (hw : Cond.fieldLink M.1 i C (T j).2.1 (T j).2.2.1 ∈ wsL_law) (hT : (T j).1 = C) (hj : j < N) (ht : ts[j]? = some (t + 2)) (kk : z_Go Y M d mk (pc + 3) lv (zR t :: st) σ o) : z_Go Y M d mk pc lv (zR k :: st) σ o :=
  z_getf hd hY hc hu hw hT hj ht (fun _ => rfl) kk
theorem z_putI {k ci j i N : Nat} {ts : List Nat} {C : String} {T : u_T} {x : Int32} {ty : FieldType} {ty0 : Nat → FieldType} (hd : decode M.2.2.1 pc = .ok (.putfield i, 3)) (hY : Y[k]? = some (.inl (ci, ts))) (hc : vwCl[ci]? = some (C, T, N)) (hu : ∀ w ∈ u_ws C T N, w ∈ wsL_law) (hty : ∀ k, k < N → parseFieldDescriptor (T k).2.2.1 = some (ty0 k)) (hnm : ∀ a, a < N → ∀ b, b < N → a ≠ b → (T a).2.1 ≠ (T b).2.1) (hw : Cond.fieldLink M.1 i C (T j).2.1 (T j).2.2.1 ∈ wsL_law) (hT : (T j).1 = C) (hj : j < N) (hfin : (T j).2.2.2 = false) (ht0 : ty0 j = ty) (hn : narrow ty (.int x) = .int x) (hf : fits ty (.int x) = true) (ht : ts[j]? = some 0) (kk : z_Go Y M d mk (pc + 3) lv st (z_pt σ k j x) o) : z_Go Y M d mk pc lv (zI x :: zR k :: st) σ o := by
  intro r σ' ho p l e s m args below meth c D ad cy F H locs ls hP hS hl
  obtain ⟨hx, hb, hr, hml, hown, hts, hlk, hK, hij, hE⟩ := id F
  refine va_put (v := .int x) hx hb hts hu ty0 hty hnm hown hK hP (z_D hij) hS k (z_ws_get hY) hc j hj (hts _ hw) (fun x h => by rw [← hT]; exact h) hfin (ty := ty) (by rw [← ht0]; exact hty j hj) hn hf (by simp; exact (List.getElem?_eq_some_iff.mp ht).1) hd (fun H1 locs1 hP1 hD1 hS1 => ?_)
  rw [z_set_f hY ht] at hP1
  exact kk r σ' ho p l e s m args below meth c D ad cy F H1 locs1 ls hP1 hS1 hl
theorem z_putL {k ci j i N : Nat} {ts : List Nat} {C : String} {T : u_T} {x : Int64} {ty0 : Nat → FieldType} (hd : decode M.2.2.1 pc = .ok (.putfield i, 3)) (hY : Y[k]? = some (.inl (ci, ts))) (hc : vwCl[ci]? = some (C, T, N)) (hu : ∀ w ∈ u_ws C T N, w ∈ wsL_law) (hty : ∀ k, k < N → parseFieldDescriptor (T k).2.2.1 = some (ty0 k)) (hnm : ∀ a, a < N → ∀ b, b < N → a ≠ b → (T a).2.1 ≠ (T b).2.1) (hw : Cond.fieldLink M.1 i C (T j).2.1 (T j).2.2.1 ∈ wsL_law) (hT : (T j).1 = C) (hj : j < N) (hfin : (T j).2.2.2 = false) (ht0 : ty0 j = .long) (ht : ts[j]? = some 1) (kk : z_Go Y M d mk (pc + 3) lv st (z_pl σ k j x) o) : z_Go Y M d mk pc lv (zL x :: zR k :: st) σ o := by
  intro r σ' ho p l e s m args below meth c D ad cy F H locs ls hP hS hl
  obtain ⟨hx, hb, hr, hml, hown, hts, hlk, hK, hij, hE⟩ := id F
  refine va_put (v := .long x) hx hb hts hu ty0 hty hnm hown hK hP (z_D hij) hS k (z_ws_get hY) hc j hj (hts _ hw) (fun x h => by rw [← hT]; exact h) hfin (ty := .long) (by rw [← ht0]; exact hty j hj) rfl rfl (by simp; exact (List.getElem?_eq_some_iff.mp ht).1) hd (fun H1 locs1 hP1 hD1 hS1 => ?_)
  rw [z_set_l hY ht] at hP1
  exact kk r σ' ho p l e s m args below meth c D ad cy F H1 locs1 ls hP1 hS1 hl
/-! rows -/
theorem z_iald {k n b w : Nat} {i : Int32} {ib : Decidable (z_in i n)} (hd : decode M.2.2.1 pc = .ok (.iaload, 1)) (hY : Y[k]? = some (.inr (0, n, b, w))) (kk : z_Go Y M d mk (pc + 1) lv (zI (σ.1 k (z_x i)) :: st) σ o) : z_Go Y M d mk pc lv (zI i :: zR k :: st) σ (z_gd (z_in i n) o) := by
  refine z_guard fun hg => ?_
  intro r σ' ho p l e s m args below meth c D ad cy F H locs ls hP hS hl
  obtain ⟨hx, hb, hr, hml, hown, hts, hlk, hK, hij, hE⟩ := id F
  exact va_iald hx hb hK hP k 0 (f := σ.1 k) (z_ws_get hY) rfl (z_in_vp hg) hd (kk r σ' ho p l e s m args below meth c D ad cy F H locs ls hP hS hl)
theorem z_zald {k n b w : Nat} {i : Int32} {ib : Decidable (z_in i n)} (hd : decode M.2.2.1 pc = .ok (.baload, 1)) (hY : Y[k]? = some (.inr (1, n, b, w))) (kk : z_Go Y M d mk (pc + 1) lv (zI (σ.1 k (z_x i)) :: st) σ o) : z_Go Y M d mk pc lv (zI i :: zR k :: st) σ (z_gd (z_in i n) o) := by
  refine z_guard fun hg => ?_
  intro r σ' ho p l e s m args below meth c D ad cy F H locs ls hP hS hl
  obtain ⟨hx, hb, hr, hml, hown, hts, hlk, hK, hij, hE⟩ := id F
  exact va_zald hx hb hK hP k 1 (f := σ.1 k) (z_ws_get hY) rfl (z_in_vp hg) hd (kk r σ' ho p l e s m args below meth c D ad cy F H locs ls hP hS hl)
theorem z_iast {k n b w : Nat} {i x : Int32} {ib : Decidable (z_in i n)} (hd : decode M.2.2.1 pc = .ok (.iastore, 1)) (hY : Y[k]? = some (.inr (0, n, b, w))) (kk : z_Go Y M d mk (pc + 1) lv st (z_pt σ k (z_x i) x) o) : z_Go Y M d mk pc lv (zI x :: zI i :: zR k :: st) σ (z_gd (z_in i n) o) := by
  refine z_guard fun hg => ?_
  intro r σ' ho p l e s m args below meth c D ad cy F H locs ls hP hS hl
  obtain ⟨hx, hb, hr, hml, hown, hts, hlk, hK, hij, hE⟩ := id F
  refine va_iast hx hb hK hP (z_D hij) hS k 0 (f := σ.1 k) (z_ws_get hY) rfl (z_in_vp hg) hd (fun H1 locs1 hP1 hD1 hS1 => ?_)
  rw [z_set_i hY] at hP1
  exact kk r σ' ho p l e s m args below meth c D ad cy F H1 locs1 ls hP1 hS1 hl
theorem z_zast {k n b w : Nat} {i x : Int32} {ib : Decidable (z_in i n)} (hd : decode M.2.2.1 pc = .ok (.bastore, 1)) (hY : Y[k]? = some (.inr (1, n, b, w))) (hv : vp_nar .boolean x = x) (kk : z_Go Y M d mk (pc + 1) lv st (z_pt σ k (z_x i) x) o) : z_Go Y M d mk pc lv (zI x :: zI i :: zR k :: st) σ (z_gd (z_in i n) o) := by
  refine z_guard fun hg => ?_
  intro r σ' ho p l e s m args below meth c D ad cy F H locs ls hP hS hl
  obtain ⟨hx, hb, hr, hml, hown, hts, hlk, hK, hij, hE⟩ := id F
  refine va_zast hx hb hK hP (z_D hij) hS k 1 (f := σ.1 k) (z_ws_get hY) rfl (z_in_vp hg) hd (fun H1 locs1 hP1 hD1 hS1 => ?_)
  rw [hv, z_set_z hY] at hP1
  exact kk r σ' ho p l e s m args below meth c D ad cy F H1 locs1 ls hP1 hS1 hl
theorem z_aald {k n b w q : Nat} {i : Int32} {ib : Decidable (z_in i n)} (hd : decode M.2.2.1 pc = .ok (.aaload, 1)) (hY : Y[k]? = some (.inr (q + 2, n, b, w))) (kk : z_in i n → z_Go Y M d mk (pc + 1) lv (zR (b + w * z_x i) :: st) σ o) : z_Go Y M d mk pc lv (zI i :: zR k :: st) σ (z_gd (z_in i n) o) := by
  refine z_guard fun hg => ?_
  intro r σ' ho p l e s m args below meth c D ad cy F H locs ls hP hS hl
  obtain ⟨hx, hb, hr, hml, hown, hts, hlk, hK, hij, hE⟩ := id F
  exact va_aldq (C := RX3) hx hb hK hP k 2 (f := fun i => some (ad (b + w * i))) (z_ws_get hY) rfl (z_in_vp hg) hd (kk hg r σ' ho p l e s m args below meth c D ad cy F H locs ls hP hS hl)
theorem z_alen {k n b w : Nat} {v : Int32} (hd : decode M.2.2.1 pc = .ok (.arraylength, 1)) (hY : Y[k]? = some (.inr (0, n, b, w))) (hv : Int32.ofNat n = v) (kk : z_Go Y M d mk (pc + 1) lv (zI v :: st) σ o) : z_Go Y M d mk pc lv (zR k :: st) σ o := by
  intro r σ' ho p l e s m args below meth c D ad cy F H locs ls hP hS hl
  obtain ⟨hx, hb, hr, hml, hown, hts, hlk, hK, hij, hE⟩ := id F
  exact va_alen hx hb hK hP k 0 (x := (n, .inl (σ.1 k))) (z_ws_get hY) (ty := .int) rfl hv hd (kk r σ' ho p l e s m args below meth c D ad cy F H locs ls hP hS hl)
/-! the row of KINDS above; String constants -/
theorem z_gstat {i : Nat} (hM : M.1 = RX5) (hd : decode M.2.2.1 pc = .ok (.getstatic i, 3)) (hw : Cond.fieldLink M.1 i RX5 "KIND_ABOVE" "[I" ∈ wsL_law) (kk : z_Go Y M d mk (pc + 3) lv (zR 2000 :: st) σ o) : z_Go Y M d mk pc lv st σ o := by
  intro r σ' ho p l e s m args below meth c D ad cy F H locs ls hP hS hl
  obtain ⟨hx, hb, hr, hml, hown, hts, hlk, hK, hij, hE⟩ := id F
  exact va_gets hx hb hE.2.2.1 hS hown (hts _ hw) (fun x h => h) hd (kk r σ' ho p l e s m args below meth c D ad cy F H locs ls hP hS hl)
theorem z_kald {i : Int32} {ib : Decidable (z_in i 6)} (hd : decode M.2.2.1 pc = .ok (.iaload, 1)) (kk : z_Go Y M d mk (pc + 1) lv (zI (z_ka (z_x i)) :: st) σ o) : z_Go Y M d mk pc lv (zI i :: zR 2000 :: st) σ (z_gd (z_in i 6) o) := by
  refine z_guard fun hg => ?_
  intro r σ' ho p l e s m args below meth c D ad cy F H locs ls hP hS hl
  obtain ⟨hx, hb, hr, hml, hown, hts, hlk, hK, hij, hE⟩ := id F
  exact va_ti hx hb hE.2.2.2.1 hS (z_in_vp hg) rfl hd (kk r σ' ho p l e s m args below meth c D ad cy F H locs ls hP hS hl)
theorem z_ldcS {i j : Nat} (hd : decode M.2.2.1 pc = .ok (.ldc j, 2)) (hi : i < 13) (h1 : (z_sIdx i).1 = M.1) (h2 : (z_sIdx i).2.1 = j) (kk : z_Go Y M d mk (pc + 2) lv (zR (1000 + i) :: st) σ o) : z_Go Y M d mk pc lv st σ o := by
  intro r σ' ho p l e s m args below meth c D ad cy F H locs ls hP hS hl
  obtain ⟨hx, hb, hr, hml, hown, hts, hlk, hK, hij, hE⟩ := id F
  have hZ := hE.2.2.2.2.1 i hi
  rw [h1, h2] at hZ
  exact va_ldcS hx hb hown hZ hd (kk r σ' ho p l e s m args below meth c D ad cy F H locs ls hP hS hl)
/-! Math, System.arraycopy -/
def z_mn (x y : Int32) : Int32 := if y < x then y else x
def z_mx (x y : Int32) : Int32 := if x < y then y else x
theorem z_min {i d0 : Nat} {x y : Int32} (hD : d = d0 + 1) (hd : decode M.2.2.1 pc = .ok (.invokestatic i, 3)) (hw : Cond.methodLink M.1 i Lib.Math.min.name ∈ wsL_law) (w1 : Cond.static Lib.Math.min.name ∈ wsL_law) (w2 : Cond.initialized "java/lang/Math" ∈ wsL_law) (w3 : Cond.code Lib.Math.min.name Lib.Math.min.code 2 (some .int) ∈ wsL_law) (hr0 : ∀ ad, ((st.map (z_v ad)).map fun v => v.category).sum ≤ 19) (kk : z_Go Y M d mk (pc + 3) lv (zI (z_mn x y) :: st) σ o) : z_Go Y M d mk pc lv (zI y :: zI x :: st) σ o := by
  intro r σ' ho p l e s m args below meth c D ad cy F H locs ls hP hS hl
  obtain ⟨hx, hb, hr, hml, hown, hts, hlk, hK, hij, hE⟩ := id F
  subst hD
  exact va_mmin hx hb (hml.trans hl.1.symm) hown (hts _ hw) (hts _ w1) (hts _ w2) (hts _ w3) (by show 1 ≤ d0 + 1; omega) (by have := hr0 ad; show _ + 13 ≤ 32 * (d0 + 1); omega) (Nat.le_refl _) (Nat.le_refl _) hd (kk r σ' ho p l e s m args below meth c D ad cy F H locs ls hP hS hl)
theorem z_max {i d0 : Nat} {x y : Int32} (hD : d = d0 + 1) (hd : decode M.2.2.1 pc = .ok (.invokestatic i, 3)) (hw : Cond.methodLink M.1 i Lib.Math.max.name ∈ wsL_law) (w1 : Cond.static Lib.Math.max.name ∈ wsL_law) (w2 : Cond.initialized "java/lang/Math" ∈ wsL_law) (w3 : Cond.code Lib.Math.max.name Lib.Math.max.code 2 (some .int) ∈ wsL_law) (hr0 : ∀ ad, ((st.map (z_v ad)).map fun v => v.category).sum ≤ 19) (kk : z_Go Y M d mk (pc + 3) lv (zI (z_mx x y) :: st) σ o) : z_Go Y M d mk pc lv (zI y :: zI x :: st) σ o := by
  intro r σ' ho p l e s m args below meth c D ad cy F H locs ls hP hS hl
  obtain ⟨hx, hb, hr, hml, hown, hts, hlk, hK, hij, hE⟩ := id F
  subst hD
  exact va_mmax hx hb (hml.trans hl.1.symm) hown (hts _ hw) (hts _ w1) (hts _ w2) (hts _ w3) (by show 1 ≤ d0 + 1; omega) (by have := hr0 ad; show _ + 13 ≤ 32 * (d0 + 1); omega) (Nat.le_refl _) (Nat.le_refl _) hd (kk r σ' ho p l e s m args below meth c D ad cy F H locs ls hP hS hl)
def z_st {β : Type} (s : z_Mem) (k : z_Mem → β) : β := k s
def z_ac (σ : z_Mem) (k0 k1 sp dp n : Nat) : z_Mem := z_cp σ k1 (va_cpy (σ.1 k0) (σ.1 k1) sp dp n)
abbrev z_cpOk (sp dp n : Int32) (n0 n1 : Nat) : Prop := ¬ sp < 0 ∧ ¬ dp < 0 ∧ ¬ n < 0 ∧ z_x sp + z_x n ≤ n0 ∧ z_x dp + z_x n ≤ n1
theorem z_copy {i d0 k0 k1 n0 n1 b0 b1 w0 w1 : Nat} {sp dp n : Int32} {ib : Decidable (z_cpOk sp dp n n0 n1)} (hD : d = d0 + 1) (hd : decode M.2.2.1 pc = .ok (.invokestatic i, 3)) (hw : Cond.methodLink M.1 i arraycopyName ∈ wsL_law) (g1 : Cond.native arraycopyName ∈ wsL_law) (g2 : Cond.static arraycopyName ∈ wsL_law) (g3 : Cond.initialized "java/lang/System" ∈ wsL_law) (hY0 : Y[k0]? = some (.inr (0, n0, b0, w0))) (hY1 : Y[k1]? = some (.inr (0, n1, b1, w1))) (kk : z_Go Y M d mk (pc + 3) lv [] (z_ac σ k0 k1 (z_x sp) (z_x dp) (z_x n)) o) : z_Go Y M d mk pc lv [zI n, zI dp, zR k1, zI sp, zR k0] σ (z_gd (z_cpOk sp dp n n0 n1) o) := by
  refine z_guard fun hg => ?_
  intro r σ' ho p l e s m args below meth c D ad cy F H locs ls hP hS hl
  obtain ⟨hx, hb, hr, hml, hown, hts, hlk, hK, hij, hE⟩ := id F
  subst hD
  obtain ⟨h1, h2, h3, h4, h5⟩ := hg
  refine va_copyi hx hb (hml.trans hl.1.symm) hown (hts _ hw) (hts _ g1) (hts _ g2) (hts _ g3) hK hP (z_D hij) hS k0 k1 0 0 (f := σ.1 k0) (g := σ.1 k1) (z_ws_get hY0) (z_ws_get hY1) rfl rfl rfl h1 h2 h3 h4 h5 (fun _ _ => rfl) (by show 1 ≤ d0 + 1; omega) (by show 0 + (nativeFrameWords "java/lang/System" "arraycopy" 5 + 11) ≤ 32 * (d0 + 1); exact Nat.le_trans (show _ ≤ 32 by decide +kernel) (by omega)) hd (fun H1 locs1 hP1 hD1 hS1 => ?_)
  rw [z_set_i hY1] at hP1
  exact kk r σ' ho p l e s m args below meth c D ad cy F H1 locs1 ls hP1 hS1 hl
end ZR
/-! ends -/
theorem z_iret {Y : z_Lay} {M : z_M} {d pc : Nat} {lv : List (Option z_V)} {σ : z_Mem} {x : Int32} {ty : FieldType} (hd : decode M.2.2.1 pc = .ok (.ireturn, 1)) (hr0 : M.2.2.2.2 = some ty) (hn : narrow ty (.int x) = .int x) : z_Go Y M d z_i pc lv [zI x] σ (some (x, σ)) := by
  intro r σ' ho p l e s m args below meth c D ad cy F H locs ls hP hS hl
  cases ho
  obtain ⟨hx, hb, hr, hml, hown, hts, hlk, hK, hij, hE⟩ := id F
  exact W.zret hx hb (hr.trans hr0) hn (fun t ht hW => ⟨rfl, by rw [ht]; exact hP, hS.F ht⟩) hS.2.2 hd hlk
theorem z_lret {Y : z_Lay} {M : z_M} {d pc : Nat} {lv : List (Option z_V)} {σ : z_Mem} {x : Int64} (hd : decode M.2.2.1 pc = .ok (.lreturn, 1)) (hr0 : M.2.2.2.2 = some .long) : z_Go Y M d z_l pc lv [zL x] σ (some (x, σ)) := by
  intro r σ' ho p l e s m args below meth c D ad cy F H locs ls hP hS hl
  cases ho
  obtain ⟨hx, hb, hr, hml, hown, hts, hlk, hK, hij, hE⟩ := id F
  exact W.lret hx hb (hr.trans hr0) (fun t ht hW => ⟨rfl, by rw [ht]; exact hP, hS.F ht⟩) hS.2.2 hd hlk
theorem z_vret {Y : z_Lay} {M : z_M} {d pc : Nat} {lv : List (Option z_V)} {σ : z_Mem} (hd : decode M.2.2.1 pc = .ok (.return_, 1)) (hr0 : M.2.2.2.2 = none) : z_Go Y M d z_u pc lv [] σ (some ((), σ)) := by
  intro r σ' ho p l e s m args below meth c D ad cy F H locs ls hP hS hl
  cases ho
  obtain ⟨hx, hb, hr, hml, hown, hts, hlk, hK, hij, hE⟩ := id F
  exact W.vret hx hb (hr.trans hr0) (fun t ht hW => ⟨rfl, by rw [ht]; exact hP, hS.F ht⟩) hS.2.2 hd hlk
theorem z_aret {Y : z_Lay} {M : z_M} {d pc k : Nat} {lv : List (Option z_V)} {σ : z_Mem} {ty : FieldType} (hd : decode M.2.2.1 pc = .ok (.areturn, 1)) (hr0 : M.2.2.2.2 = some ty) (hn : ∃ n, ty = .object n) : z_Go Y M d z_r pc lv [zR k] σ (some (k, σ)) := by
  intro r σ' ho p l e s m args below meth c D ad cy F H locs ls hP hS hl
  cases ho
  obtain ⟨hx, hb, hr, hml, hown, hts, hlk, hK, hij, hE⟩ := id F
  exact W.aret (v := .ref (ad k)) hx hb (hr.trans hr0) (Or.inl hn) (Or.inr ⟨_, rfl⟩) (fun t ht hW => ⟨rfl, by rw [ht]; exact hP, hS.F ht⟩) hS.2.2 hd hlk
