/-! values, memory, layout of a world whose cells are fixed: only numbers change -/
abbrev z_V : Type := Int32 ⊕ (Int64 ⊕ Nat)
abbrev zI (x : Int32) : z_V := Sum.inl x
abbrev zL (x : Int64) : z_V := Sum.inr (Sum.inl x)
abbrev zR (k : Nat) : z_V := Sum.inr (Sum.inr k)
def z_v (ad : Nat → Nat) : z_V → Value
  | .inl x => .int x
  | .inr (.inl x) => .long x
  | .inr (.inr k) => .ref (ad k)
abbrev z_Mem : Type := (Nat → Nat → Int32) × (Nat → Nat → Int64)
def z_pt (σ : z_Mem) (k j : Nat) (v : Int32) : z_Mem := (va_up σ.1 k (upd (σ.1 k) j v), σ.2)
def z_cp (σ : z_Mem) (k : Nat) (g : Nat → Int32) : z_Mem := (va_up σ.1 k g, σ.2)
def z_pl (σ : z_Mem) (k j : Nat) (v : Int64) : z_Mem := (σ.1, va_up σ.2 k (vp_updL (σ.2 k) j v))
/-- an object (its number among the classes, its slots: 0 an int, 1 a long, t + 2 the cell t), or a row (0 ints, 1 booleans, else of cells b, b + w ..; its length) -/
abbrev z_Cell : Type := (Nat × List Nat) ⊕ (Nat × Nat × Nat × Nat)
abbrev z_Lay : Type := List z_Cell
def z_slot (ad : Nat → Nat) (σ : z_Mem) (k j : Nat) : Nat → Value
  | 0 => .int (σ.1 k j)
  | 1 => .long (σ.2 k j)
  | t + 2 => .ref (ad t)
abbrev z_Cy : Type := ClassId × ClassId × ClassId
def z_E (ad : Nat → Nat) (cy : z_Cy) (σ : z_Mem) (k : Nat) : z_Cell → va_E
  | .inl (ci, ts) => .inr (ci, ts.mapIdx (fun j t => z_slot ad σ k j t))
  | .inr (0, n, _, _) => .inl (cy.1, n, .inl (σ.1 k))
  | .inr (1, n, _, _) => .inl (cy.2.1, n, .inl (σ.1 k))
  | .inr (_ + 2, n, b, w) => .inl (cy.2.2, n, .inr (.inr (.inr (.inr (fun i => some (ad (b + w * i)))))))
def z_ws (Y : z_Lay) (ad : Nat → Nat) (cy : z_Cy) (σ : z_Mem) : va_W := Y.mapIdx (fun k c => (ad k, z_E ad cy σ k c))
theorem z_ws_get {Y : z_Lay} {ad : Nat → Nat} {cy : z_Cy} {σ : z_Mem} {k : Nat} {c : z_Cell} (h : Y[k]? = some c) : (z_ws Y ad cy σ)[k]? = some (ad k, z_E ad cy σ k c) := by
  simp [z_ws, h]
theorem z_ws_at {Y : z_Lay} {ad : Nat → Nat} {cy : z_Cy} {σ : z_Mem} {k : Nat} {q : Nat × va_E} (h : (z_ws Y ad cy σ)[k]? = some q) : ∃ c, Y[k]? = some c ∧ q = (ad k, z_E ad cy σ k c) := by
  simp only [z_ws, List.getElem?_mapIdx, Option.map_eq_some_iff] at h
  obtain ⟨c, h1, h2⟩ := h
  exact ⟨c, h1, h2.symm⟩
theorem z_lt {Y : z_Lay} {k : Nat} {c : z_Cell} (h : Y[k]? = some c) : k < Y.length := (List.getElem?_eq_some_iff.mp h).1
/-- which cells the world is -/
def z_A (ad : Nat → Nat) (N : Nat) : Nat → Prop := fun q => ∃ k, k < N ∧ q = ad k
theorem z_D {Y : z_Lay} {ad : Nat → Nat} {cy : z_Cy} {σ : z_Mem} (hi : ∀ i j, i < Y.length → j < Y.length → ad i = ad j → i = j) : va_D (z_A ad Y.length) (z_ws Y ad cy σ) := by
  refine ⟨fun i j p q hp hq h => ?_, fun k q hq => ?_⟩
  · obtain ⟨c, h1, rfl⟩ := z_ws_at hp
    obtain ⟨c2, h2, rfl⟩ := z_ws_at hq
    exact hi i j (z_lt h1) (z_lt h2) h
  · obtain ⟨c, h1, rfl⟩ := z_ws_at hq
    exact ⟨k, z_lt h1, rfl⟩
theorem z_ws_set {Y : z_Lay} {ad : Nat → Nat} {cy : z_Cy} {σ σ' : z_Mem} {k : Nat} {c : z_Cell} {e : va_E} (h : Y[k]? = some c) (he : z_E ad cy σ' k c = e) (ho : ∀ k' c', k' ≠ k → Y[k']? = some c' → z_E ad cy σ' k' c' = z_E ad cy σ k' c') : (z_ws Y ad cy σ).set k (ad k, e) = z_ws Y ad cy σ' := by
  apply List.ext_getElem?
  intro i
  by_cases hi : i = k
  · subst hi
    rw [z_ws_get h, List.getElem?_set_self (by simp [z_ws]; exact z_lt h), he]
  · rw [List.getElem?_set_ne (Ne.symm hi)]
    cases hc : Y[i]? with
    | none => simp [z_ws, hc]
    | some c' => rw [z_ws_get hc, z_ws_get hc, ho i c' hi hc]
theorem z_E_o1 {ad : Nat → Nat} {cy : z_Cy} {σ σ' : z_Mem} {k : Nat} (h1 : σ'.1 k = σ.1 k) (h2 : σ'.2 k = σ.2 k) (c : z_Cell) : z_E ad cy σ' k c = z_E ad cy σ k c := by
  have hs : ∀ j t, z_slot ad σ' k j t = z_slot ad σ k j t := by
    intro j t
    match t with
    | 0 => simp only [z_slot, h1]
    | 1 => simp only [z_slot, h2]
    | t + 2 => simp only [z_slot]
  match c with
  | .inl (ci, ts) => simp only [z_E, hs]
  | .inr (0, n, _, _) => simp only [z_E, h1]
  | .inr (1, n, _, _) => simp only [z_E, h1]
  | .inr (_ + 2, n, b, w) => simp only [z_E]
theorem z_up_ne {α : Type} {f : Nat → α} {k k' : Nat} {v : α} (h : k' ≠ k) : va_up f k v k' = f k' := by simp [va_up, h]
theorem z_up_eq {α : Type} {f : Nat → α} {k : Nat} {v : α} : va_up f k v k = v := by simp [va_up]
/-- a field's store -/
theorem z_set_f {Y : z_Lay} {ad : Nat → Nat} {cy : z_Cy} {σ : z_Mem} {k j ci : Nat} {ts : List Nat} {x : Int32} (h : Y[k]? = some (.inl (ci, ts))) (hj : ts[j]? = some 0) : (z_ws Y ad cy σ).set k (ad k, .inr (ci, (ts.mapIdx (fun j t => z_slot ad σ k j t)).set j (.int x))) = z_ws Y ad cy (z_pt σ k j x) := by
  refine z_ws_set h ?_ (fun k' c' hk _ => z_E_o1 (σ := σ) (σ' := z_pt σ k j x) (by simp [z_pt, z_up_ne hk]) rfl c')
  simp only [z_E]
  congr 2
  apply List.ext_getElem?
  intro i
  by_cases hi : i = j
  · subst hi
    rw [List.getElem?_set_self (by simp; exact (List.getElem?_eq_some_iff.mp hj).1)]
    simp [hj, z_slot, z_pt, va_up, upd]
  · rw [List.getElem?_set_ne (Ne.symm hi)]
    simp only [List.getElem?_mapIdx]
    cases ts[i]? with
    | none => rfl
    | some t =>
      match t with
      | 0 => simp [z_slot, z_pt, va_up, upd, hi]
      | 1 => simp [z_slot, z_pt]
      | t + 2 => simp [z_slot]
theorem z_set_l {Y : z_Lay} {ad : Nat → Nat} {cy : z_Cy} {σ : z_Mem} {k j ci : Nat} {ts : List Nat} {x : Int64} (h : Y[k]? = some (.inl (ci, ts))) (hj : ts[j]? = some 1) : (z_ws Y ad cy σ).set k (ad k, .inr (ci, (ts.mapIdx (fun j t => z_slot ad σ k j t)).set j (.long x))) = z_ws Y ad cy (z_pl σ k j x) := by
  refine z_ws_set h ?_ (fun k' c' hk _ => z_E_o1 (σ := σ) (σ' := z_pl σ k j x) rfl (by simp [z_pl, z_up_ne hk]) c')
  simp only [z_E]
  congr 2
  apply List.ext_getElem?
  intro i
  by_cases hi : i = j
  · subst hi
    rw [List.getElem?_set_self (by simp; exact (List.getElem?_eq_some_iff.mp hj).1)]
    simp [hj, z_slot, z_pl, va_up, vp_updL]
  · rw [List.getElem?_set_ne (Ne.symm hi)]
    simp only [List.getElem?_mapIdx]
    cases ts[i]? with
    | none => rfl
    | some t =>
      match t with
      | 0 => simp [z_slot, z_pl]
      | 1 => simp [z_slot, z_pl, va_up, vp_updL, hi]
      | t + 2 => simp [z_slot]
/-- a row's change -/
theorem z_set_i {Y : z_Lay} {ad : Nat → Nat} {cy : z_Cy} {σ : z_Mem} {k n b w : Nat} {g : Nat → Int32} (h : Y[k]? = some (.inr (0, n, b, w))) : (z_ws Y ad cy σ).set k (ad k, .inl (cy.1, n, .inl g)) = z_ws Y ad cy (z_cp σ k g) := by
  refine z_ws_set h ?_ (fun k' c' hk _ => z_E_o1 (σ := σ) (σ' := z_cp σ k g) (by simp [z_cp, z_up_ne hk]) rfl c')
  simp [z_E, z_cp, z_up_eq]
theorem z_set_z {Y : z_Lay} {ad : Nat → Nat} {cy : z_Cy} {σ : z_Mem} {k n b w : Nat} {g : Nat → Int32} (h : Y[k]? = some (.inr (1, n, b, w))) : (z_ws Y ad cy σ).set k (ad k, .inl (cy.2.1, n, .inl g)) = z_ws Y ad cy (z_cp σ k g) := by
  refine z_ws_set h ?_ (fun k' c' hk _ => z_E_o1 (σ := σ) (σ' := z_cp σ k g) (by simp [z_cp, z_up_ne hk]) rfl c')
  simp [z_E, z_cp, z_up_eq]
/-! locals by their places -/
def z_pairs (ad : Nat → Nat) : Nat → List (Option z_V) → List (Nat × Value)
  | _, [] => []
  | i, none :: r => z_pairs ad (i + 1) r
  | i, some v :: r => (i, z_v ad v) :: z_pairs ad (i + 1) r
theorem z_pairs_in {ad : Nat → Nat} : ∀ {lv : List (Option z_V)} {i : Nat} {q : Nat × Value}, q ∈ z_pairs ad i lv ↔ ∃ (j : Nat) (v : z_V), lv[j]? = some (some v) ∧ q = (i + j, z_v ad v)
  | [], i, q => by simp [z_pairs]
  | none :: r, i, q => by
    rw [z_pairs, z_pairs_in]
    constructor
    · rintro ⟨j, v, h1, h2⟩
      exact ⟨j + 1, v, by simpa using h1, by rw [h2]; congr 1; omega⟩
    · rintro ⟨j, v, h1, h2⟩
      match j with
      | 0 => simp at h1
      | j + 1 => exact ⟨j, v, by simpa using h1, by rw [h2]; congr 1; omega⟩
  | some w :: r, i, q => by
    rw [z_pairs, List.mem_cons, z_pairs_in]
    constructor
    · rintro (h | ⟨j, v, h1, h2⟩)
      · exact ⟨0, w, rfl, by rw [h]; rfl⟩
      · exact ⟨j + 1, v, by simpa using h1, by rw [h2]; congr 1; omega⟩
    · rintro ⟨j, v, h1, h2⟩
      match j with
      | 0 =>
        simp at h1
        subst h1
        exact Or.inl (by rw [h2]; rfl)
      | j + 1 => exact Or.inr ⟨j, v, by simpa using h1, by rw [h2]; congr 1; omega⟩
def z_has (ad : Nat → Nat) (ls : Array Slot) (n : Nat) (lv : List (Option z_V)) : Prop := lv_has ls n (z_pairs ad 0 lv)
theorem z_has_at {ad : Nat → Nat} {ls : Array Slot} {n i : Nat} {lv : List (Option z_V)} {v : z_V} (h : z_has ad ls n lv) (hi : lv[i]? = some (some v)) : ls[i]? = some (.val (z_v ad v)) :=
  h.2.2 (i, z_v ad v) (z_pairs_in.mpr ⟨i, v, hi, by simp⟩)
theorem z_has_mono {ad : Nat → Nat} {ls : Array Slot} {n : Nat} {lv lv' : List (Option z_V)} (h : z_has ad ls n lv) (hm : ∀ (i : Nat) (v : z_V), lv'[i]? = some (some v) → lv[i]? = some (some v)) : z_has ad ls n lv' := by
  refine ⟨h.1, h.2.1, fun q hq => ?_⟩
  obtain ⟨j, v, h1, rfl⟩ := z_pairs_in.mp hq
  simpa using z_has_at h (hm j v h1)
/-- not a long (which a store just behind it would break) -/
def z_nl : Option z_V → Bool
  | some (.inr (.inl _)) => false
  | _ => true
theorem z_cat {ad : Nat → Nat} {v : z_V} (h : z_nl (some v) = true) : (z_v ad v).category = 1 := by
  match v with
  | .inl x => rfl
  | .inr (.inl x) => simp [z_nl] at h
  | .inr (.inr k) => rfl
/-- what a store into place i leaves (a value of one word) -/
theorem z_has_st {ad : Nat → Nat} {ls' : Array Slot} {n i : Nat} {lv lv' : List (Option z_V)} {v : z_V}
    (h : lv_has ls' n ((i, z_v ad v) :: (z_pairs ad 0 lv).filter (fun q => !(q.1 == i) && !(q.1 + 1 == i && q.2.category == 2))))
    (h1 : ∀ j w, lv'[j]? = some (some w) → (j = i ∧ w = v) ∨ (j ≠ i ∧ lv[j]? = some (some w) ∧ (j + 1 = i → z_nl (some w) = true))) : z_has ad ls' n lv' := by
  refine ⟨h.1, h.2.1, fun q hq => ?_⟩
  obtain ⟨j, w, hj, rfl⟩ := z_pairs_in.mp hq
  rcases h1 j w hj with ⟨rfl, rfl⟩ | ⟨hne, hl, hc⟩
  · have := h.2.2 (j, z_v ad w) List.mem_cons_self
    simpa using this
  · refine h.2.2 _ (List.mem_cons_of_mem _ (List.mem_filter.mpr ⟨z_pairs_in.mpr ⟨j, w, hl, rfl⟩, ?_⟩))
    simp only [Nat.zero_add, Bool.and_eq_true, Bool.not_eq_true', beq_eq_false_iff_ne, ne_eq, Bool.and_eq_false_iff]
    refine ⟨hne, ?_⟩
    by_cases hji : j + 1 = i
    · right
      rw [z_cat (hc hji)]
      decide
    · exact Or.inl hji
theorem z_has_stL {ad : Nat → Nat} {ls' : Array Slot} {n i : Nat} {lv lv' : List (Option z_V)} {v : z_V}
    (h : lv_has ls' n ((i, z_v ad v) :: (z_pairs ad 0 lv).filter (fun q => !(q.1 == i) && (!(q.1 == i + 1) && !(q.1 + 1 == i && q.2.category == 2)))))
    (h1 : ∀ j w, lv'[j]? = some (some w) → (j = i ∧ w = v) ∨ (j ≠ i ∧ j ≠ i + 1 ∧ lv[j]? = some (some w) ∧ (j + 1 = i → z_nl (some w) = true))) : z_has ad ls' n lv' := by
  refine ⟨h.1, h.2.1, fun q hq => ?_⟩
  obtain ⟨j, w, hj, rfl⟩ := z_pairs_in.mp hq
  rcases h1 j w hj with ⟨rfl, rfl⟩ | ⟨hne, hne2, hl, hc⟩
  · have := h.2.2 (j, z_v ad w) List.mem_cons_self
    simpa using this
  · refine h.2.2 _ (List.mem_cons_of_mem _ (List.mem_filter.mpr ⟨z_pairs_in.mpr ⟨j, w, hl, rfl⟩, ?_⟩))
    simp only [Nat.zero_add, Bool.and_eq_true, Bool.not_eq_true', beq_eq_false_iff_ne, ne_eq, Bool.and_eq_false_iff]
    refine ⟨hne, hne2, ?_⟩
    by_cases hji : j + 1 = i
    · right
      rw [z_cat (hc hji)]
      decide
    · exact Or.inl hji
/-- the locals with which a method begins -/
def z_lv : List z_V → List (Option z_V)
  | [] => []
  | .inr (.inl x) :: r => some (.inr (.inl x)) :: none :: z_lv r
  | .inl x :: r => some (.inl x) :: z_lv r
  | .inr (.inr k) :: r => some (.inr (.inr k)) :: z_lv r
theorem z_lv_args {ad : Nat → Nat} : ∀ (av : List z_V) (i : Nat), lv_args i (av.map (z_v ad)) = z_pairs ad i (z_lv av)
  | [], i => rfl
  | .inr (.inl x) :: r, i => by
    simp only [List.map_cons, lv_args, z_lv, z_pairs, z_v, Value.category]
    rw [← z_lv_args r (i + 1 + 1)]
    rfl
  | .inl x :: r, i => by
    simp only [List.map_cons, lv_args, z_lv, z_pairs, z_v, Value.category]
    rw [← z_lv_args r (i + 1)]
    rfl
  | .inr (.inr k) :: r, i => by
    simp only [List.map_cons, lv_args, z_lv, z_pairs, z_v, Value.category]
    rw [← z_lv_args r (i + 1)]
    rfl
theorem z_lv_len {ad : Nat → Nat} : ∀ (av : List z_V), (lg_sl (av.map (z_v ad))).length = (z_lv av).length
  | [] => rfl
  | .inr (.inl x) :: r => by
    have := z_lv_len (ad := ad) r
    show (lg_sl (.long x :: r.map (z_v ad))).length = (z_lv r).length + 1 + 1
    rw [← this]
    rfl
  | .inl x :: r => by
    have := z_lv_len (ad := ad) r
    show (lg_sl (.int x :: r.map (z_v ad))).length = (z_lv r).length + 1
    rw [← this]
    rfl
  | .inr (.inr k) :: r => by
    have := z_lv_len (ad := ad) r
    show (lg_sl (.ref (ad k) :: r.map (z_v ad))).length = (z_lv r).length + 1
    rw [← this]
    rfl
