def z_FU : Nat := 1000
theorem z_callNone {α : Type} {Y : z_Lay} {M : z_M} {d : Nat} {mk : α → Option z_V} {av : List z_V} {σ : z_Mem} : z_Call Y M d mk av σ none := fun r σ' h => by cases h
abbrev z_bool (x : Int32) : Prop := x = 0 ∨ x = 1
theorem z_narB {x : Int32} (h : z_bool x) : narrow .boolean (.int x) = .int x := by
  rcases h with rfl | rfl <;> decide
def z_sub : List (Option z_V) → List (Option z_V) → Prop
  | [], _ => True
  | none :: r, _ :: r' => z_sub r r'
  | none :: r, [] => z_sub r []
  | some v :: r, w :: r' => w = some v ∧ z_sub r r'
  | some _ :: _, [] => False
theorem z_sub_ok : ∀ {lv' lv : List (Option z_V)}, z_sub lv' lv → ∀ (i : Nat) (v : z_V), lv'[i]? = some (some v) → lv[i]? = some (some v)
  | [], _, _, i, v, h => by simp at h
  | none :: r, w :: r', hs, i, v, h => by
    match i with
    | 0 => simp at h
    | i + 1 => simpa using z_sub_ok (lv' := r) (lv := r') hs i v (by simpa using h)
  | none :: r, [], hs, i, v, h => by
    match i with
    | 0 => simp at h
    | i + 1 =>
      have := z_sub_ok (lv' := r) (lv := []) hs i v (by simpa using h)
      simp at this
  | some u :: r, w :: r', hs, i, v, h => by
    match i with
    | 0 =>
      simp at h
      rw [hs.1, h]
      rfl
    | i + 1 => simpa using z_sub_ok (lv' := r) (lv := r') hs.2 i v (by simpa using h)
  | some _ :: _, [], hs, i, v, h => hs.elim
section ZS
variable {α : Type} {Y : z_Lay} {M : z_M} {d : Nat} {mk : α → Option z_V} {pc : Nat} {lv : List (Option z_V)} {st : List z_V} {σ : z_Mem} {o oa ob : Option (α × z_Mem)}
theorem z_iinc {i : Nat} {n : Int} {x y : Int32} {lv' : List (Option z_V)} (hd : decode M.2.2.1 pc = .ok (.iinc i n, 3)) (hv : lv[i]? = some (some (zI x))) (hy : Int32.ofInt n = y) (hn : i < M.2.2.2.1) (hs : z_stOk lv lv' i (zI (x + y))) (k : z_Go Y M d mk (pc + 3) lv' st σ o) : z_Go Y M d mk pc lv st σ o := by
  intro r σ' ho p l e s m args below meth c D ad cy F H locs ls hP hS hl
  obtain ⟨hx, hb, hr, hml, hown, hts, hlk, hK, hij, hE⟩ := id F
  obtain ⟨q, hq⟩ := List.getElem?_of_mem (z_pairs_in (ad := ad) (i := 0).mpr ⟨i, zI x, hv, rfl⟩)
  refine lv_iinc (x := x) (v := x + y) (k := q) hx hb hd hl (by rw [hq]; simp [z_v]) (by rw [hy]) hn rfl (fun ls' hl' => k r σ' ho p l e s m args below meth c D ad cy F H locs ls' hP hS (z_has_st (v := zI (x + y)) hl' hs))
theorem z_icmp_eq_T {x y : Int32} {off : Int} {tgt : Nat} (hd : decode M.2.2.1 pc = .ok (.if_icmp .eq off, 3)) (ht : (pc : Int) + off = (tgt : Int)) (h : x = y) (k : z_Go Y M d mk tgt lv st σ o) : z_Go Y M d mk pc lv (zI y :: zI x :: st) σ o := by
  intro r σ' ho p l e s m args below meth c D ad cy F H locs ls hP hS hl
  obtain ⟨hx, hb, hr, hml, hown, hts, hlk, hK, hij, hE⟩ := id F
  exact lv_icmp_eq hx hb hd ht (fun _ => (k r σ' ho p l e s m args below meth c D ad cy F H locs ls hP hS hl)) (fun q => absurd h q)
theorem z_icmp_eq_N {x y : Int32} {off : Int} {tgt : Nat} (hd : decode M.2.2.1 pc = .ok (.if_icmp .eq off, 3)) (ht : (pc : Int) + off = (tgt : Int)) (h : ¬ x = y) (k : z_Go Y M d mk (pc + 3) lv st σ o) : z_Go Y M d mk pc lv (zI y :: zI x :: st) σ o := by
  intro r σ' ho p l e s m args below meth c D ad cy F H locs ls hP hS hl
  obtain ⟨hx, hb, hr, hml, hown, hts, hlk, hK, hij, hE⟩ := id F
  exact lv_icmp_eq hx hb hd ht (fun q => absurd q h) (fun _ => (k r σ' ho p l e s m args below meth c D ad cy F H locs ls hP hS hl))
theorem z_if_eq_T {x : Int32} {off : Int} {tgt : Nat} (hd : decode M.2.2.1 pc = .ok (.ifCond .eq off, 3)) (ht : (pc : Int) + off = (tgt : Int)) (h : x = 0) (k : z_Go Y M d mk tgt lv st σ o) : z_Go Y M d mk pc lv (zI x :: st) σ o := by
  intro r σ' ho p l e s m args below meth c D ad cy F H locs ls hP hS hl
  obtain ⟨hx, hb, hr, hml, hown, hts, hlk, hK, hij, hE⟩ := id F
  exact lv_if_eq hx hb hd ht (fun _ => (k r σ' ho p l e s m args below meth c D ad cy F H locs ls hP hS hl)) (fun q => absurd h q)
theorem z_if_eq_N {x : Int32} {off : Int} {tgt : Nat} (hd : decode M.2.2.1 pc = .ok (.ifCond .eq off, 3)) (ht : (pc : Int) + off = (tgt : Int)) (h : ¬ x = 0) (k : z_Go Y M d mk (pc + 3) lv st σ o) : z_Go Y M d mk pc lv (zI x :: st) σ o := by
  intro r σ' ho p l e s m args below meth c D ad cy F H locs ls hP hS hl
  obtain ⟨hx, hb, hr, hml, hown, hts, hlk, hK, hij, hE⟩ := id F
  exact lv_if_eq hx hb hd ht (fun q => absurd q h) (fun _ => (k r σ' ho p l e s m args below meth c D ad cy F H locs ls hP hS hl))
theorem z_icmp_ne_T {x y : Int32} {off : Int} {tgt : Nat} (hd : decode M.2.2.1 pc = .ok (.if_icmp .ne off, 3)) (ht : (pc : Int) + off = (tgt : Int)) (h : ¬ x = y) (k : z_Go Y M d mk tgt lv st σ o) : z_Go Y M d mk pc lv (zI y :: zI x :: st) σ o := by
  intro r σ' ho p l e s m args below meth c D ad cy F H locs ls hP hS hl
  obtain ⟨hx, hb, hr, hml, hown, hts, hlk, hK, hij, hE⟩ := id F
  exact lv_icmp_ne hx hb hd ht (fun _ => (k r σ' ho p l e s m args below meth c D ad cy F H locs ls hP hS hl)) (fun q => absurd q h)
theorem z_icmp_ne_N {x y : Int32} {off : Int} {tgt : Nat} (hd : decode M.2.2.1 pc = .ok (.if_icmp .ne off, 3)) (ht : (pc : Int) + off = (tgt : Int)) (h : x = y) (k : z_Go Y M d mk (pc + 3) lv st σ o) : z_Go Y M d mk pc lv (zI y :: zI x :: st) σ o := by
  intro r σ' ho p l e s m args below meth c D ad cy F H locs ls hP hS hl
  obtain ⟨hx, hb, hr, hml, hown, hts, hlk, hK, hij, hE⟩ := id F
  exact lv_icmp_ne hx hb hd ht (fun q => absurd h q) (fun _ => (k r σ' ho p l e s m args below meth c D ad cy F H locs ls hP hS hl))
theorem z_if_ne_T {x : Int32} {off : Int} {tgt : Nat} (hd : decode M.2.2.1 pc = .ok (.ifCond .ne off, 3)) (ht : (pc : Int) + off = (tgt : Int)) (h : ¬ x = 0) (k : z_Go Y M d mk tgt lv st σ o) : z_Go Y M d mk pc lv (zI x :: st) σ o := by
  intro r σ' ho p l e s m args below meth c D ad cy F H locs ls hP hS hl
  obtain ⟨hx, hb, hr, hml, hown, hts, hlk, hK, hij, hE⟩ := id F
  exact lv_if_ne hx hb hd ht (fun _ => (k r σ' ho p l e s m args below meth c D ad cy F H locs ls hP hS hl)) (fun q => absurd q h)
theorem z_if_ne_N {x : Int32} {off : Int} {tgt : Nat} (hd : decode M.2.2.1 pc = .ok (.ifCond .ne off, 3)) (ht : (pc : Int) + off = (tgt : Int)) (h : x = 0) (k : z_Go Y M d mk (pc + 3) lv st σ o) : z_Go Y M d mk pc lv (zI x :: st) σ o := by
  intro r σ' ho p l e s m args below meth c D ad cy F H locs ls hP hS hl
  obtain ⟨hx, hb, hr, hml, hown, hts, hlk, hK, hij, hE⟩ := id F
  exact lv_if_ne hx hb hd ht (fun q => absurd h q) (fun _ => (k r σ' ho p l e s m args below meth c D ad cy F H locs ls hP hS hl))
theorem z_icmp_lt_T {x y : Int32} {off : Int} {tgt : Nat} (hd : decode M.2.2.1 pc = .ok (.if_icmp .lt off, 3)) (ht : (pc : Int) + off = (tgt : Int)) (h : x < y) (k : z_Go Y M d mk tgt lv st σ o) : z_Go Y M d mk pc lv (zI y :: zI x :: st) σ o := by
  intro r σ' ho p l e s m args below meth c D ad cy F H locs ls hP hS hl
  obtain ⟨hx, hb, hr, hml, hown, hts, hlk, hK, hij, hE⟩ := id F
  exact lv_icmp_lt hx hb hd ht (fun _ => (k r σ' ho p l e s m args below meth c D ad cy F H locs ls hP hS hl)) (fun q => absurd h q)
theorem z_icmp_lt_N {x y : Int32} {off : Int} {tgt : Nat} (hd : decode M.2.2.1 pc = .ok (.if_icmp .lt off, 3)) (ht : (pc : Int) + off = (tgt : Int)) (h : ¬ x < y) (k : z_Go Y M d mk (pc + 3) lv st σ o) : z_Go Y M d mk pc lv (zI y :: zI x :: st) σ o := by
  intro r σ' ho p l e s m args below meth c D ad cy F H locs ls hP hS hl
  obtain ⟨hx, hb, hr, hml, hown, hts, hlk, hK, hij, hE⟩ := id F
  exact lv_icmp_lt hx hb hd ht (fun q => absurd q h) (fun _ => (k r σ' ho p l e s m args below meth c D ad cy F H locs ls hP hS hl))
theorem z_if_lt_T {x : Int32} {off : Int} {tgt : Nat} (hd : decode M.2.2.1 pc = .ok (.ifCond .lt off, 3)) (ht : (pc : Int) + off = (tgt : Int)) (h : x < 0) (k : z_Go Y M d mk tgt lv st σ o) : z_Go Y M d mk pc lv (zI x :: st) σ o := by
  intro r σ' ho p l e s m args below meth c D ad cy F H locs ls hP hS hl
  obtain ⟨hx, hb, hr, hml, hown, hts, hlk, hK, hij, hE⟩ := id F
  exact lv_if_lt hx hb hd ht (fun _ => (k r σ' ho p l e s m args below meth c D ad cy F H locs ls hP hS hl)) (fun q => absurd h q)
theorem z_if_lt_N {x : Int32} {off : Int} {tgt : Nat} (hd : decode M.2.2.1 pc = .ok (.ifCond .lt off, 3)) (ht : (pc : Int) + off = (tgt : Int)) (h : ¬ x < 0) (k : z_Go Y M d mk (pc + 3) lv st σ o) : z_Go Y M d mk pc lv (zI x :: st) σ o := by
  intro r σ' ho p l e s m args below meth c D ad cy F H locs ls hP hS hl
  obtain ⟨hx, hb, hr, hml, hown, hts, hlk, hK, hij, hE⟩ := id F
  exact lv_if_lt hx hb hd ht (fun q => absurd q h) (fun _ => (k r σ' ho p l e s m args below meth c D ad cy F H locs ls hP hS hl))
theorem z_icmp_ge_T {x y : Int32} {off : Int} {tgt : Nat} (hd : decode M.2.2.1 pc = .ok (.if_icmp .ge off, 3)) (ht : (pc : Int) + off = (tgt : Int)) (h : y ≤ x) (k : z_Go Y M d mk tgt lv st σ o) : z_Go Y M d mk pc lv (zI y :: zI x :: st) σ o := by
  intro r σ' ho p l e s m args below meth c D ad cy F H locs ls hP hS hl
  obtain ⟨hx, hb, hr, hml, hown, hts, hlk, hK, hij, hE⟩ := id F
  exact lv_icmp_ge hx hb hd ht (fun _ => (k r σ' ho p l e s m args below meth c D ad cy F H locs ls hP hS hl)) (fun q => absurd h q)
theorem z_icmp_ge_N {x y : Int32} {off : Int} {tgt : Nat} (hd : decode M.2.2.1 pc = .ok (.if_icmp .ge off, 3)) (ht : (pc : Int) + off = (tgt : Int)) (h : ¬ y ≤ x) (k : z_Go Y M d mk (pc + 3) lv st σ o) : z_Go Y M d mk pc lv (zI y :: zI x :: st) σ o := by
  intro r σ' ho p l e s m args below meth c D ad cy F H locs ls hP hS hl
  obtain ⟨hx, hb, hr, hml, hown, hts, hlk, hK, hij, hE⟩ := id F
  exact lv_icmp_ge hx hb hd ht (fun q => absurd q h) (fun _ => (k r σ' ho p l e s m args below meth c D ad cy F H locs ls hP hS hl))
theorem z_if_ge_T {x : Int32} {off : Int} {tgt : Nat} (hd : decode M.2.2.1 pc = .ok (.ifCond .ge off, 3)) (ht : (pc : Int) + off = (tgt : Int)) (h : 0 ≤ x) (k : z_Go Y M d mk tgt lv st σ o) : z_Go Y M d mk pc lv (zI x :: st) σ o := by
  intro r σ' ho p l e s m args below meth c D ad cy F H locs ls hP hS hl
  obtain ⟨hx, hb, hr, hml, hown, hts, hlk, hK, hij, hE⟩ := id F
  exact lv_if_ge hx hb hd ht (fun _ => (k r σ' ho p l e s m args below meth c D ad cy F H locs ls hP hS hl)) (fun q => absurd h q)
theorem z_if_ge_N {x : Int32} {off : Int} {tgt : Nat} (hd : decode M.2.2.1 pc = .ok (.ifCond .ge off, 3)) (ht : (pc : Int) + off = (tgt : Int)) (h : ¬ 0 ≤ x) (k : z_Go Y M d mk (pc + 3) lv st σ o) : z_Go Y M d mk pc lv (zI x :: st) σ o := by
  intro r σ' ho p l e s m args below meth c D ad cy F H locs ls hP hS hl
  obtain ⟨hx, hb, hr, hml, hown, hts, hlk, hK, hij, hE⟩ := id F
  exact lv_if_ge hx hb hd ht (fun q => absurd q h) (fun _ => (k r σ' ho p l e s m args below meth c D ad cy F H locs ls hP hS hl))
theorem z_icmp_gt_T {x y : Int32} {off : Int} {tgt : Nat} (hd : decode M.2.2.1 pc = .ok (.if_icmp .gt off, 3)) (ht : (pc : Int) + off = (tgt : Int)) (h : y < x) (k : z_Go Y M d mk tgt lv st σ o) : z_Go Y M d mk pc lv (zI y :: zI x :: st) σ o := by
  intro r σ' ho p l e s m args below meth c D ad cy F H locs ls hP hS hl
  obtain ⟨hx, hb, hr, hml, hown, hts, hlk, hK, hij, hE⟩ := id F
  exact lv_icmp_gt hx hb hd ht (fun _ => (k r σ' ho p l e s m args below meth c D ad cy F H locs ls hP hS hl)) (fun q => absurd h q)
theorem z_icmp_gt_N {x y : Int32} {off : Int} {tgt : Nat} (hd : decode M.2.2.1 pc = .ok (.if_icmp .gt off, 3)) (ht : (pc : Int) + off = (tgt : Int)) (h : ¬ y < x) (k : z_Go Y M d mk (pc + 3) lv st σ o) : z_Go Y M d mk pc lv (zI y :: zI x :: st) σ o := by
  intro r σ' ho p l e s m args below meth c D ad cy F H locs ls hP hS hl
  obtain ⟨hx, hb, hr, hml, hown, hts, hlk, hK, hij, hE⟩ := id F
  exact lv_icmp_gt hx hb hd ht (fun q => absurd q h) (fun _ => (k r σ' ho p l e s m args below meth c D ad cy F H locs ls hP hS hl))
theorem z_if_gt_T {x : Int32} {off : Int} {tgt : Nat} (hd : decode M.2.2.1 pc = .ok (.ifCond .gt off, 3)) (ht : (pc : Int) + off = (tgt : Int)) (h : 0 < x) (k : z_Go Y M d mk tgt lv st σ o) : z_Go Y M d mk pc lv (zI x :: st) σ o := by
  intro r σ' ho p l e s m args below meth c D ad cy F H locs ls hP hS hl
  obtain ⟨hx, hb, hr, hml, hown, hts, hlk, hK, hij, hE⟩ := id F
  exact lv_if_gt hx hb hd ht (fun _ => (k r σ' ho p l e s m args below meth c D ad cy F H locs ls hP hS hl)) (fun q => absurd h q)
theorem z_if_gt_N {x : Int32} {off : Int} {tgt : Nat} (hd : decode M.2.2.1 pc = .ok (.ifCond .gt off, 3)) (ht : (pc : Int) + off = (tgt : Int)) (h : ¬ 0 < x) (k : z_Go Y M d mk (pc + 3) lv st σ o) : z_Go Y M d mk pc lv (zI x :: st) σ o := by
  intro r σ' ho p l e s m args below meth c D ad cy F H locs ls hP hS hl
  obtain ⟨hx, hb, hr, hml, hown, hts, hlk, hK, hij, hE⟩ := id F
  exact lv_if_gt hx hb hd ht (fun q => absurd q h) (fun _ => (k r σ' ho p l e s m args below meth c D ad cy F H locs ls hP hS hl))
theorem z_icmp_le_T {x y : Int32} {off : Int} {tgt : Nat} (hd : decode M.2.2.1 pc = .ok (.if_icmp .le off, 3)) (ht : (pc : Int) + off = (tgt : Int)) (h : x ≤ y) (k : z_Go Y M d mk tgt lv st σ o) : z_Go Y M d mk pc lv (zI y :: zI x :: st) σ o := by
  intro r σ' ho p l e s m args below meth c D ad cy F H locs ls hP hS hl
  obtain ⟨hx, hb, hr, hml, hown, hts, hlk, hK, hij, hE⟩ := id F
  exact lv_icmp_le hx hb hd ht (fun _ => (k r σ' ho p l e s m args below meth c D ad cy F H locs ls hP hS hl)) (fun q => absurd h q)
theorem z_icmp_le_N {x y : Int32} {off : Int} {tgt : Nat} (hd : decode M.2.2.1 pc = .ok (.if_icmp .le off, 3)) (ht : (pc : Int) + off = (tgt : Int)) (h : ¬ x ≤ y) (k : z_Go Y M d mk (pc + 3) lv st σ o) : z_Go Y M d mk pc lv (zI y :: zI x :: st) σ o := by
  intro r σ' ho p l e s m args below meth c D ad cy F H locs ls hP hS hl
  obtain ⟨hx, hb, hr, hml, hown, hts, hlk, hK, hij, hE⟩ := id F
  exact lv_icmp_le hx hb hd ht (fun q => absurd q h) (fun _ => (k r σ' ho p l e s m args below meth c D ad cy F H locs ls hP hS hl))
theorem z_if_le_T {x : Int32} {off : Int} {tgt : Nat} (hd : decode M.2.2.1 pc = .ok (.ifCond .le off, 3)) (ht : (pc : Int) + off = (tgt : Int)) (h : x ≤ 0) (k : z_Go Y M d mk tgt lv st σ o) : z_Go Y M d mk pc lv (zI x :: st) σ o := by
  intro r σ' ho p l e s m args below meth c D ad cy F H locs ls hP hS hl
  obtain ⟨hx, hb, hr, hml, hown, hts, hlk, hK, hij, hE⟩ := id F
  exact lv_if_le hx hb hd ht (fun _ => (k r σ' ho p l e s m args below meth c D ad cy F H locs ls hP hS hl)) (fun q => absurd h q)
theorem z_if_le_N {x : Int32} {off : Int} {tgt : Nat} (hd : decode M.2.2.1 pc = .ok (.ifCond .le off, 3)) (ht : (pc : Int) + off = (tgt : Int)) (h : ¬ x ≤ 0) (k : z_Go Y M d mk (pc + 3) lv st σ o) : z_Go Y M d mk pc lv (zI x :: st) σ o := by
  intro r σ' ho p l e s m args below meth c D ad cy F H locs ls hP hS hl
  obtain ⟨hx, hb, hr, hml, hown, hts, hlk, hK, hij, hE⟩ := id F
  exact lv_if_le hx hb hd ht (fun q => absurd q h) (fun _ => (k r σ' ho p l e s m args below meth c D ad cy F H locs ls hP hS hl))
theorem z_tswK {x : Int32} {dflt lo hi : Int} {offs : Array Int} {len : Nat} {off : Int} {tgt : Nat} (hd : decode M.2.2.1 pc = .ok (.tableswitch dflt lo hi offs, len)) (h1 : ¬ x.toInt < lo) (h2 : ¬ hi < x.toInt) (h3 : offs[(x.toInt - lo).toNat]? = some off) (ht : (pc : Int) + off = (tgt : Int)) (k : z_Go Y M d mk tgt lv st σ o) : z_Go Y M d mk pc lv (zI x :: st) σ o := by
  intro r σ' ho p l e s m args below meth c D ad cy F H locs ls hP hS hl
  obtain ⟨hx, hb, hr, hml, hown, hts, hlk, hK, hij, hE⟩ := id F
  exact lv_tableIn hx hb hd h1 h2 h3 ht (k r σ' ho p l e s m args below meth c D ad cy F H locs ls hP hS hl)
theorem z_tswC {x n : Int32} {dflt lo hi : Int} {offs : Array Int} {len : Nat} {off : Int} {tgt : Nat} {ib : Decidable (x = n)} (hd : decode M.2.2.1 pc = .ok (.tableswitch dflt lo hi offs, len)) (h1 : ¬ n.toInt < lo) (h2 : ¬ hi < n.toInt) (h3 : offs[(n.toInt - lo).toNat]? = some off) (ht : (pc : Int) + off = (tgt : Int)) (ka : z_Go Y M d mk tgt lv st σ oa) (kb : ¬ x = n → z_Go Y M d mk pc lv (zI x :: st) σ ob) : z_Go Y M d mk pc lv (zI x :: st) σ (if x = n then oa else ob) := by
  by_cases h : x = n
  · rw [if_pos h]
    subst h
    exact z_tswK hd h1 h2 h3 ht ka
  · rw [if_neg h]
    exact kb h
theorem z_tswD {x : Int32} {dflt lo hi : Int} {offs : Array Int} {len : Nat} {tgt : Nat} (hd : decode M.2.2.1 pc = .ok (.tableswitch dflt lo hi offs, len)) (h : x.toInt < lo ∨ hi < x.toInt) (ht : (pc : Int) + dflt = (tgt : Int)) (k : z_Go Y M d mk tgt lv st σ o) : z_Go Y M d mk pc lv (zI x :: st) σ o := by
  intro r σ' ho p l e s m args below meth c D ad cy F H locs ls hP hS hl
  obtain ⟨hx, hb, hr, hml, hown, hts, hlk, hK, hij, hE⟩ := id F
  exact lv_tableOut hx hb hd h ht (k r σ' ho p l e s m args below meth c D ad cy F H locs ls hP hS hl)
theorem z_lsw {x : Int32} {dflt : Int} {ps : Array (Int × Int)} {len : Nat} {off : Int} {tgt : Nat} (hd : decode M.2.2.1 pc = .ok (.lookupswitch dflt ps, len)) (hp : (ps.toList.zip (ps.toList.drop 1)).all (fun (a, next) => a.1 < next.1) = true) (h3 : Op.lookupswitch.offset ps.toList dflt x.toInt = off) (ht : (pc : Int) + off = (tgt : Int)) (k : z_Go Y M d mk tgt lv st σ o) : z_Go Y M d mk pc lv (zI x :: st) σ o := by
  intro r σ' ho p l e s m args below meth c D ad cy F H locs ls hP hS hl
  obtain ⟨hx, hb, hr, hml, hown, hts, hlk, hK, hij, hE⟩ := id F
  exact lv_lookup hx hb hd hp h3 ht (k r σ' ho p l e s m args below meth c D ad cy F H locs ls hP hS hl)
theorem z_lswC {x n : Int32} {dflt : Int} {ps : Array (Int × Int)} {len : Nat} {off : Int} {tgt : Nat} {ib : Decidable (x = n)} (hd : decode M.2.2.1 pc = .ok (.lookupswitch dflt ps, len)) (hp : (ps.toList.zip (ps.toList.drop 1)).all (fun (a, next) => a.1 < next.1) = true) (h3 : Op.lookupswitch.offset ps.toList dflt n.toInt = off) (ht : (pc : Int) + off = (tgt : Int)) (ka : z_Go Y M d mk tgt lv st σ oa) (kb : ¬ x = n → z_Go Y M d mk pc lv (zI x :: st) σ ob) : z_Go Y M d mk pc lv (zI x :: st) σ (if x = n then oa else ob) := by
  by_cases h : x = n
  · rw [if_pos h]
    subst h
    exact z_lsw hd hp h3 ht ka
  · rw [if_neg h]
    exact kb h
theorem z_idivK {x y : Int32} (hd : decode M.2.2.1 pc = .ok (.idiv, 1)) (hne : ¬ y = 0) (k : z_Go Y M d mk (pc + 1) lv (zI (x / y) :: st) σ o) : z_Go Y M d mk pc lv (zI y :: zI x :: st) σ o := by
  intro r σ' ho p l e s m args below meth c D ad cy F H locs ls hP hS hl
  obtain ⟨hx, hb, hr, hml, hown, hts, hlk, hK, hij, hE⟩ := id F
  exact lv_idiv hx hb hd hne (k r σ' ho p l e s m args below meth c D ad cy F H locs ls hP hS hl)
theorem z_iremK {x y : Int32} (hd : decode M.2.2.1 pc = .ok (.irem, 1)) (hne : ¬ y = 0) (k : z_Go Y M d mk (pc + 1) lv (zI (x - x / y * y) :: st) σ o) : z_Go Y M d mk pc lv (zI y :: zI x :: st) σ o := by
  intro r σ' ho p l e s m args below meth c D ad cy F H locs ls hP hS hl
  obtain ⟨hx, hb, hr, hml, hown, hts, hlk, hK, hij, hE⟩ := id F
  exact lv_irem hx hb hd hne (k r σ' ho p l e s m args below meth c D ad cy F H locs ls hP hS hl)
theorem z_ldivK {x y : Int64} (hd : decode M.2.2.1 pc = .ok (.ldiv, 1)) (hne : ¬ y = 0) (k : z_Go Y M d mk (pc + 1) lv (zL (x / y) :: st) σ o) : z_Go Y M d mk pc lv (zL y :: zL x :: st) σ o := by
  intro r σ' ho p l e s m args below meth c D ad cy F H locs ls hP hS hl
  obtain ⟨hx, hb, hr, hml, hown, hts, hlk, hK, hij, hE⟩ := id F
  exact lv_ldiv hx hb hd hne (k r σ' ho p l e s m args below meth c D ad cy F H locs ls hP hS hl)
theorem z_lremK {x y : Int64} (hd : decode M.2.2.1 pc = .ok (.lrem, 1)) (hne : ¬ y = 0) (k : z_Go Y M d mk (pc + 1) lv (zL (x - x / y * y) :: st) σ o) : z_Go Y M d mk pc lv (zL y :: zL x :: st) σ o := by
  intro r σ' ho p l e s m args below meth c D ad cy F H locs ls hP hS hl
  obtain ⟨hx, hb, hr, hml, hown, hts, hlk, hK, hij, hE⟩ := id F
  exact lv_lrem hx hb hd hne (k r σ' ho p l e s m args below meth c D ad cy F H locs ls hP hS hl)
theorem z_let {s : z_Mem} {k : z_Mem → Option (α × z_Mem)} (h : ∀ s1, z_Go Y M d mk pc lv st s1 (k s1)) : z_Go Y M d mk pc lv st s (z_st s k) := h s
theorem z_bipush_m100 (hd : decode M.2.2.1 pc = .ok (.bipush (-100), 2)) (k : z_Go Y M d mk (pc + 2) lv (zI (-100 : Int32) :: st) σ o) : z_Go Y M d mk pc lv st σ o := z_bipush hd (by decide) k
theorem z_bipush_m14 (hd : decode M.2.2.1 pc = .ok (.bipush (-14), 2)) (k : z_Go Y M d mk (pc + 2) lv (zI (-14 : Int32) :: st) σ o) : z_Go Y M d mk pc lv st σ o := z_bipush hd (by decide) k
theorem z_bipush_m13 (hd : decode M.2.2.1 pc = .ok (.bipush (-13), 2)) (k : z_Go Y M d mk (pc + 2) lv (zI (-13 : Int32) :: st) σ o) : z_Go Y M d mk pc lv st σ o := z_bipush hd (by decide) k
theorem z_bipush_m12 (hd : decode M.2.2.1 pc = .ok (.bipush (-12), 2)) (k : z_Go Y M d mk (pc + 2) lv (zI (-12 : Int32) :: st) σ o) : z_Go Y M d mk pc lv st σ o := z_bipush hd (by decide) k
theorem z_bipush_m11 (hd : decode M.2.2.1 pc = .ok (.bipush (-11), 2)) (k : z_Go Y M d mk (pc + 2) lv (zI (-11 : Int32) :: st) σ o) : z_Go Y M d mk pc lv st σ o := z_bipush hd (by decide) k
theorem z_bipush_m4 (hd : decode M.2.2.1 pc = .ok (.bipush (-4), 2)) (k : z_Go Y M d mk (pc + 2) lv (zI (-4 : Int32) :: st) σ o) : z_Go Y M d mk pc lv st σ o := z_bipush hd (by decide) k
theorem z_bipush_m3 (hd : decode M.2.2.1 pc = .ok (.bipush (-3), 2)) (k : z_Go Y M d mk (pc + 2) lv (zI (-3 : Int32) :: st) σ o) : z_Go Y M d mk pc lv st σ o := z_bipush hd (by decide) k
theorem z_bipush_m2 (hd : decode M.2.2.1 pc = .ok (.bipush (-2), 2)) (k : z_Go Y M d mk (pc + 2) lv (zI (-2 : Int32) :: st) σ o) : z_Go Y M d mk pc lv st σ o := z_bipush hd (by decide) k
theorem z_bipush_6 (hd : decode M.2.2.1 pc = .ok (.bipush 6, 2)) (k : z_Go Y M d mk (pc + 2) lv (zI (6 : Int32) :: st) σ o) : z_Go Y M d mk pc lv st σ o := z_bipush hd (by decide) k
theorem z_bipush_7 (hd : decode M.2.2.1 pc = .ok (.bipush 7, 2)) (k : z_Go Y M d mk (pc + 2) lv (zI (7 : Int32) :: st) σ o) : z_Go Y M d mk pc lv st σ o := z_bipush hd (by decide) k
theorem z_bipush_8 (hd : decode M.2.2.1 pc = .ok (.bipush 8, 2)) (k : z_Go Y M d mk (pc + 2) lv (zI (8 : Int32) :: st) σ o) : z_Go Y M d mk pc lv st σ o := z_bipush hd (by decide) k
theorem z_bipush_9 (hd : decode M.2.2.1 pc = .ok (.bipush 9, 2)) (k : z_Go Y M d mk (pc + 2) lv (zI (9 : Int32) :: st) σ o) : z_Go Y M d mk pc lv st σ o := z_bipush hd (by decide) k
theorem z_bipush_10 (hd : decode M.2.2.1 pc = .ok (.bipush 10, 2)) (k : z_Go Y M d mk (pc + 2) lv (zI (10 : Int32) :: st) σ o) : z_Go Y M d mk pc lv st σ o := z_bipush hd (by decide) k
theorem z_bipush_12 (hd : decode M.2.2.1 pc = .ok (.bipush 12, 2)) (k : z_Go Y M d mk (pc + 2) lv (zI (12 : Int32) :: st) σ o) : z_Go Y M d mk pc lv st σ o := z_bipush hd (by decide) k
theorem z_bipush_18 (hd : decode M.2.2.1 pc = .ok (.bipush 18, 2)) (k : z_Go Y M d mk (pc + 2) lv (zI (18 : Int32) :: st) σ o) : z_Go Y M d mk pc lv st σ o := z_bipush hd (by decide) k
theorem z_bipush_20 (hd : decode M.2.2.1 pc = .ok (.bipush 20, 2)) (k : z_Go Y M d mk (pc + 2) lv (zI (20 : Int32) :: st) σ o) : z_Go Y M d mk pc lv st σ o := z_bipush hd (by decide) k
theorem z_bipush_21 (hd : decode M.2.2.1 pc = .ok (.bipush 21, 2)) (k : z_Go Y M d mk (pc + 2) lv (zI (21 : Int32) :: st) σ o) : z_Go Y M d mk pc lv st σ o := z_bipush hd (by decide) k
theorem z_bipush_32 (hd : decode M.2.2.1 pc = .ok (.bipush 32, 2)) (k : z_Go Y M d mk (pc + 2) lv (zI (32 : Int32) :: st) σ o) : z_Go Y M d mk pc lv st σ o := z_bipush hd (by decide) k
theorem z_bipush_40 (hd : decode M.2.2.1 pc = .ok (.bipush 40, 2)) (k : z_Go Y M d mk (pc + 2) lv (zI (40 : Int32) :: st) σ o) : z_Go Y M d mk pc lv st σ o := z_bipush hd (by decide) k
theorem z_bipush_41 (hd : decode M.2.2.1 pc = .ok (.bipush 41, 2)) (k : z_Go Y M d mk (pc + 2) lv (zI (41 : Int32) :: st) σ o) : z_Go Y M d mk pc lv st σ o := z_bipush hd (by decide) k
theorem z_bipush_42 (hd : decode M.2.2.1 pc = .ok (.bipush 42, 2)) (k : z_Go Y M d mk (pc + 2) lv (zI (42 : Int32) :: st) σ o) : z_Go Y M d mk pc lv st σ o := z_bipush hd (by decide) k
theorem z_bipush_43 (hd : decode M.2.2.1 pc = .ok (.bipush 43, 2)) (k : z_Go Y M d mk (pc + 2) lv (zI (43 : Int32) :: st) σ o) : z_Go Y M d mk pc lv st σ o := z_bipush hd (by decide) k
theorem z_bipush_45 (hd : decode M.2.2.1 pc = .ok (.bipush 45, 2)) (k : z_Go Y M d mk (pc + 2) lv (zI (45 : Int32) :: st) σ o) : z_Go Y M d mk pc lv st σ o := z_bipush hd (by decide) k
theorem z_bipush_48 (hd : decode M.2.2.1 pc = .ok (.bipush 48, 2)) (k : z_Go Y M d mk (pc + 2) lv (zI (48 : Int32) :: st) σ o) : z_Go Y M d mk pc lv st σ o := z_bipush hd (by decide) k
theorem z_bipush_57 (hd : decode M.2.2.1 pc = .ok (.bipush 57, 2)) (k : z_Go Y M d mk (pc + 2) lv (zI (57 : Int32) :: st) σ o) : z_Go Y M d mk pc lv st σ o := z_bipush hd (by decide) k
theorem z_bipush_59 (hd : decode M.2.2.1 pc = .ok (.bipush 59, 2)) (k : z_Go Y M d mk (pc + 2) lv (zI (59 : Int32) :: st) σ o) : z_Go Y M d mk pc lv st σ o := z_bipush hd (by decide) k
theorem z_bipush_60 (hd : decode M.2.2.1 pc = .ok (.bipush 60, 2)) (k : z_Go Y M d mk (pc + 2) lv (zI (60 : Int32) :: st) σ o) : z_Go Y M d mk pc lv st σ o := z_bipush hd (by decide) k
theorem z_bipush_61 (hd : decode M.2.2.1 pc = .ok (.bipush 61, 2)) (k : z_Go Y M d mk (pc + 2) lv (zI (61 : Int32) :: st) σ o) : z_Go Y M d mk pc lv st σ o := z_bipush hd (by decide) k
theorem z_bipush_64 (hd : decode M.2.2.1 pc = .ok (.bipush 64, 2)) (k : z_Go Y M d mk (pc + 2) lv (zI (64 : Int32) :: st) σ o) : z_Go Y M d mk pc lv st σ o := z_bipush hd (by decide) k
theorem z_bipush_97 (hd : decode M.2.2.1 pc = .ok (.bipush 97, 2)) (k : z_Go Y M d mk (pc + 2) lv (zI (97 : Int32) :: st) σ o) : z_Go Y M d mk pc lv st σ o := z_bipush hd (by decide) k
theorem z_bipush_98 (hd : decode M.2.2.1 pc = .ok (.bipush 98, 2)) (k : z_Go Y M d mk (pc + 2) lv (zI (98 : Int32) :: st) σ o) : z_Go Y M d mk pc lv st σ o := z_bipush hd (by decide) k
theorem z_bipush_99 (hd : decode M.2.2.1 pc = .ok (.bipush 99, 2)) (k : z_Go Y M d mk (pc + 2) lv (zI (99 : Int32) :: st) σ o) : z_Go Y M d mk pc lv st σ o := z_bipush hd (by decide) k
theorem z_bipush_100 (hd : decode M.2.2.1 pc = .ok (.bipush 100, 2)) (k : z_Go Y M d mk (pc + 2) lv (zI (100 : Int32) :: st) σ o) : z_Go Y M d mk pc lv st σ o := z_bipush hd (by decide) k
theorem z_bipush_101 (hd : decode M.2.2.1 pc = .ok (.bipush 101, 2)) (k : z_Go Y M d mk (pc + 2) lv (zI (101 : Int32) :: st) σ o) : z_Go Y M d mk pc lv st σ o := z_bipush hd (by decide) k
theorem z_bipush_103 (hd : decode M.2.2.1 pc = .ok (.bipush 103, 2)) (k : z_Go Y M d mk (pc + 2) lv (zI (103 : Int32) :: st) σ o) : z_Go Y M d mk pc lv st σ o := z_bipush hd (by decide) k
theorem z_bipush_104 (hd : decode M.2.2.1 pc = .ok (.bipush 104, 2)) (k : z_Go Y M d mk (pc + 2) lv (zI (104 : Int32) :: st) σ o) : z_Go Y M d mk pc lv st σ o := z_bipush hd (by decide) k
theorem z_bipush_105 (hd : decode M.2.2.1 pc = .ok (.bipush 105, 2)) (k : z_Go Y M d mk (pc + 2) lv (zI (105 : Int32) :: st) σ o) : z_Go Y M d mk pc lv st σ o := z_bipush hd (by decide) k
theorem z_bipush_108 (hd : decode M.2.2.1 pc = .ok (.bipush 108, 2)) (k : z_Go Y M d mk (pc + 2) lv (zI (108 : Int32) :: st) σ o) : z_Go Y M d mk pc lv st σ o := z_bipush hd (by decide) k
theorem z_bipush_109 (hd : decode M.2.2.1 pc = .ok (.bipush 109, 2)) (k : z_Go Y M d mk (pc + 2) lv (zI (109 : Int32) :: st) σ o) : z_Go Y M d mk pc lv st σ o := z_bipush hd (by decide) k
theorem z_bipush_110 (hd : decode M.2.2.1 pc = .ok (.bipush 110, 2)) (k : z_Go Y M d mk (pc + 2) lv (zI (110 : Int32) :: st) σ o) : z_Go Y M d mk pc lv st σ o := z_bipush hd (by decide) k
theorem z_bipush_111 (hd : decode M.2.2.1 pc = .ok (.bipush 111, 2)) (k : z_Go Y M d mk (pc + 2) lv (zI (111 : Int32) :: st) σ o) : z_Go Y M d mk pc lv st σ o := z_bipush hd (by decide) k
theorem z_bipush_112 (hd : decode M.2.2.1 pc = .ok (.bipush 112, 2)) (k : z_Go Y M d mk (pc + 2) lv (zI (112 : Int32) :: st) σ o) : z_Go Y M d mk pc lv st σ o := z_bipush hd (by decide) k
theorem z_bipush_114 (hd : decode M.2.2.1 pc = .ok (.bipush 114, 2)) (k : z_Go Y M d mk (pc + 2) lv (zI (114 : Int32) :: st) σ o) : z_Go Y M d mk pc lv st σ o := z_bipush hd (by decide) k
theorem z_bipush_115 (hd : decode M.2.2.1 pc = .ok (.bipush 115, 2)) (k : z_Go Y M d mk (pc + 2) lv (zI (115 : Int32) :: st) σ o) : z_Go Y M d mk pc lv st σ o := z_bipush hd (by decide) k
theorem z_bipush_116 (hd : decode M.2.2.1 pc = .ok (.bipush 116, 2)) (k : z_Go Y M d mk (pc + 2) lv (zI (116 : Int32) :: st) σ o) : z_Go Y M d mk pc lv st σ o := z_bipush hd (by decide) k
theorem z_bipush_117 (hd : decode M.2.2.1 pc = .ok (.bipush 117, 2)) (k : z_Go Y M d mk (pc + 2) lv (zI (117 : Int32) :: st) σ o) : z_Go Y M d mk pc lv st σ o := z_bipush hd (by decide) k
theorem z_bipush_120 (hd : decode M.2.2.1 pc = .ok (.bipush 120, 2)) (k : z_Go Y M d mk (pc + 2) lv (zI (120 : Int32) :: st) σ o) : z_Go Y M d mk pc lv st σ o := z_bipush hd (by decide) k
theorem z_bipush_121 (hd : decode M.2.2.1 pc = .ok (.bipush 121, 2)) (k : z_Go Y M d mk (pc + 2) lv (zI (121 : Int32) :: st) σ o) : z_Go Y M d mk pc lv st σ o := z_bipush hd (by decide) k
theorem z_bipush_122 (hd : decode M.2.2.1 pc = .ok (.bipush 122, 2)) (k : z_Go Y M d mk (pc + 2) lv (zI (122 : Int32) :: st) σ o) : z_Go Y M d mk pc lv st σ o := z_bipush hd (by decide) k
theorem z_iconst_m1 (hd : decode M.2.2.1 pc = .ok (.iconst (-1), 1)) (k : z_Go Y M d mk (pc + 1) lv (zI (-1 : Int32) :: st) σ o) : z_Go Y M d mk pc lv st σ o := z_iconst hd (by decide) k
theorem z_iconst_0 (hd : decode M.2.2.1 pc = .ok (.iconst 0, 1)) (k : z_Go Y M d mk (pc + 1) lv (zI (0 : Int32) :: st) σ o) : z_Go Y M d mk pc lv st σ o := z_iconst hd (by decide) k
theorem z_iconst_1 (hd : decode M.2.2.1 pc = .ok (.iconst 1, 1)) (k : z_Go Y M d mk (pc + 1) lv (zI (1 : Int32) :: st) σ o) : z_Go Y M d mk pc lv st σ o := z_iconst hd (by decide) k
theorem z_iconst_2 (hd : decode M.2.2.1 pc = .ok (.iconst 2, 1)) (k : z_Go Y M d mk (pc + 1) lv (zI (2 : Int32) :: st) σ o) : z_Go Y M d mk pc lv st σ o := z_iconst hd (by decide) k
theorem z_iconst_3 (hd : decode M.2.2.1 pc = .ok (.iconst 3, 1)) (k : z_Go Y M d mk (pc + 1) lv (zI (3 : Int32) :: st) σ o) : z_Go Y M d mk pc lv st σ o := z_iconst hd (by decide) k
theorem z_iconst_4 (hd : decode M.2.2.1 pc = .ok (.iconst 4, 1)) (k : z_Go Y M d mk (pc + 1) lv (zI (4 : Int32) :: st) σ o) : z_Go Y M d mk pc lv st σ o := z_iconst hd (by decide) k
theorem z_iconst_5 (hd : decode M.2.2.1 pc = .ok (.iconst 5, 1)) (k : z_Go Y M d mk (pc + 1) lv (zI (5 : Int32) :: st) σ o) : z_Go Y M d mk pc lv st σ o := z_iconst hd (by decide) k
theorem z_sipush_m1000 (hd : decode M.2.2.1 pc = .ok (.sipush (-1000), 3)) (k : z_Go Y M d mk (pc + 3) lv (zI (-1000 : Int32) :: st) σ o) : z_Go Y M d mk pc lv st σ o := z_sipush hd (by decide) k
theorem z_sipush_160 (hd : decode M.2.2.1 pc = .ok (.sipush 160, 3)) (k : z_Go Y M d mk (pc + 3) lv (zI (160 : Int32) :: st) σ o) : z_Go Y M d mk pc lv st σ o := z_sipush hd (by decide) k
theorem z_sipush_255 (hd : decode M.2.2.1 pc = .ok (.sipush 255, 3)) (k : z_Go Y M d mk (pc + 3) lv (zI (255 : Int32) :: st) σ o) : z_Go Y M d mk pc lv st σ o := z_sipush hd (by decide) k
theorem z_sipush_256 (hd : decode M.2.2.1 pc = .ok (.sipush 256, 3)) (k : z_Go Y M d mk (pc + 3) lv (zI (256 : Int32) :: st) σ o) : z_Go Y M d mk pc lv st σ o := z_sipush hd (by decide) k
theorem z_sipush_262 (hd : decode M.2.2.1 pc = .ok (.sipush 262, 3)) (k : z_Go Y M d mk (pc + 3) lv (zI (262 : Int32) :: st) σ o) : z_Go Y M d mk pc lv st σ o := z_sipush hd (by decide) k
theorem z_sipush_265 (hd : decode M.2.2.1 pc = .ok (.sipush 265, 3)) (k : z_Go Y M d mk (pc + 3) lv (zI (265 : Int32) :: st) σ o) : z_Go Y M d mk pc lv st σ o := z_sipush hd (by decide) k
theorem z_sipush_266 (hd : decode M.2.2.1 pc = .ok (.sipush 266, 3)) (k : z_Go Y M d mk (pc + 3) lv (zI (266 : Int32) :: st) σ o) : z_Go Y M d mk pc lv st σ o := z_sipush hd (by decide) k
theorem z_sipush_267 (hd : decode M.2.2.1 pc = .ok (.sipush 267, 3)) (k : z_Go Y M d mk (pc + 3) lv (zI (267 : Int32) :: st) σ o) : z_Go Y M d mk pc lv st σ o := z_sipush hd (by decide) k
theorem z_sipush_999 (hd : decode M.2.2.1 pc = .ok (.sipush 999, 3)) (k : z_Go Y M d mk (pc + 3) lv (zI (999 : Int32) :: st) σ o) : z_Go Y M d mk pc lv st σ o := z_sipush hd (by decide) k
theorem z_sipush_10000 (hd : decode M.2.2.1 pc = .ok (.sipush 10000, 3)) (k : z_Go Y M d mk (pc + 3) lv (zI (10000 : Int32) :: st) σ o) : z_Go Y M d mk pc lv st σ o := z_sipush hd (by decide) k
theorem z_sipush_12345 (hd : decode M.2.2.1 pc = .ok (.sipush 12345, 3)) (k : z_Go Y M d mk (pc + 3) lv (zI (12345 : Int32) :: st) σ o) : z_Go Y M d mk pc lv st σ o := z_sipush hd (by decide) k
theorem z_sipush_20000 (hd : decode M.2.2.1 pc = .ok (.sipush 20000, 3)) (k : z_Go Y M d mk (pc + 3) lv (zI (20000 : Int32) :: st) σ o) : z_Go Y M d mk pc lv st σ o := z_sipush hd (by decide) k
theorem z_sipush_20003 (hd : decode M.2.2.1 pc = .ok (.sipush 20003, 3)) (k : z_Go Y M d mk (pc + 3) lv (zI (20003 : Int32) :: st) σ o) : z_Go Y M d mk pc lv st σ o := z_sipush hd (by decide) k
theorem z_sipush_20042 (hd : decode M.2.2.1 pc = .ok (.sipush 20042, 3)) (k : z_Go Y M d mk (pc + 3) lv (zI (20042 : Int32) :: st) σ o) : z_Go Y M d mk pc lv st σ o := z_sipush hd (by decide) k
theorem z_sipush_20265 (hd : decode M.2.2.1 pc = .ok (.sipush 20265, 3)) (k : z_Go Y M d mk (pc + 3) lv (zI (20265 : Int32) :: st) σ o) : z_Go Y M d mk pc lv st σ o := z_sipush hd (by decide) k
theorem z_sipush_20266 (hd : decode M.2.2.1 pc = .ok (.sipush 20266, 3)) (k : z_Go Y M d mk (pc + 3) lv (zI (20266 : Int32) :: st) σ o) : z_Go Y M d mk pc lv st σ o := z_sipush hd (by decide) k
theorem z_sipush_20267 (hd : decode M.2.2.1 pc = .ok (.sipush 20267, 3)) (k : z_Go Y M d mk (pc + 3) lv (zI (20267 : Int32) :: st) σ o) : z_Go Y M d mk pc lv st σ o := z_sipush hd (by decide) k
end ZS
theorem z_sl8_5 {a0 a1 a2 a3 a4 a5 a6 a7 : Option z_V} {v : z_V} (h : z_nl a4 = true) : z_stOkL [a0, a1, a2, a3, a4, a5, a6, a7] [a0, a1, a2, a3, a4, some v, none, a7] 5 v := by
  intro j w hj
  match j, hj with
  | 0, hj => exact Or.inr ⟨by decide, by decide, hj, fun q => absurd q (by decide)⟩
  | 1, hj => exact Or.inr ⟨by decide, by decide, hj, fun q => absurd q (by decide)⟩
  | 2, hj => exact Or.inr ⟨by decide, by decide, hj, fun q => absurd q (by decide)⟩
  | 3, hj => exact Or.inr ⟨by decide, by decide, hj, fun q => absurd q (by decide)⟩
  | 4, hj => exact Or.inr ⟨by decide, by decide, hj, fun _ => by rw [← Option.some.inj hj]; exact h⟩
  | 5, hj => exact Or.inl ⟨rfl, (Option.some.inj (Option.some.inj hj)).symm⟩
  | 6, hj => cases hj
  | 7, hj => exact Or.inr ⟨by decide, by decide, hj, fun q => absurd q (by decide)⟩
  | j + 8, hj => simp at hj
theorem z_sl11_5 {a0 a1 a2 a3 a4 a5 a6 a7 a8 a9 a10 : Option z_V} {v : z_V} (h : z_nl a4 = true) : z_stOkL [a0, a1, a2, a3, a4, a5, a6, a7, a8, a9, a10] [a0, a1, a2, a3, a4, some v, none, a7, a8, a9, a10] 5 v := by
  intro j w hj
  match j, hj with
  | 0, hj => exact Or.inr ⟨by decide, by decide, hj, fun q => absurd q (by decide)⟩
  | 1, hj => exact Or.inr ⟨by decide, by decide, hj, fun q => absurd q (by decide)⟩
  | 2, hj => exact Or.inr ⟨by decide, by decide, hj, fun q => absurd q (by decide)⟩
  | 3, hj => exact Or.inr ⟨by decide, by decide, hj, fun q => absurd q (by decide)⟩
  | 4, hj => exact Or.inr ⟨by decide, by decide, hj, fun _ => by rw [← Option.some.inj hj]; exact h⟩
  | 5, hj => exact Or.inl ⟨rfl, (Option.some.inj (Option.some.inj hj)).symm⟩
  | 6, hj => cases hj
  | 7, hj => exact Or.inr ⟨by decide, by decide, hj, fun q => absurd q (by decide)⟩
  | 8, hj => exact Or.inr ⟨by decide, by decide, hj, fun q => absurd q (by decide)⟩
  | 9, hj => exact Or.inr ⟨by decide, by decide, hj, fun q => absurd q (by decide)⟩
  | 10, hj => exact Or.inr ⟨by decide, by decide, hj, fun q => absurd q (by decide)⟩
  | j + 11, hj => simp at hj
theorem z_sl11_7 {a0 a1 a2 a3 a4 a5 a6 a7 a8 a9 a10 : Option z_V} {v : z_V} (h : z_nl a6 = true) : z_stOkL [a0, a1, a2, a3, a4, a5, a6, a7, a8, a9, a10] [a0, a1, a2, a3, a4, a5, a6, some v, none, a9, a10] 7 v := by
  intro j w hj
  match j, hj with
  | 0, hj => exact Or.inr ⟨by decide, by decide, hj, fun q => absurd q (by decide)⟩
  | 1, hj => exact Or.inr ⟨by decide, by decide, hj, fun q => absurd q (by decide)⟩
  | 2, hj => exact Or.inr ⟨by decide, by decide, hj, fun q => absurd q (by decide)⟩
  | 3, hj => exact Or.inr ⟨by decide, by decide, hj, fun q => absurd q (by decide)⟩
  | 4, hj => exact Or.inr ⟨by decide, by decide, hj, fun q => absurd q (by decide)⟩
  | 5, hj => exact Or.inr ⟨by decide, by decide, hj, fun q => absurd q (by decide)⟩
  | 6, hj => exact Or.inr ⟨by decide, by decide, hj, fun _ => by rw [← Option.some.inj hj]; exact h⟩
  | 7, hj => exact Or.inl ⟨rfl, (Option.some.inj (Option.some.inj hj)).symm⟩
  | 8, hj => cases hj
  | 9, hj => exact Or.inr ⟨by decide, by decide, hj, fun q => absurd q (by decide)⟩
  | 10, hj => exact Or.inr ⟨by decide, by decide, hj, fun q => absurd q (by decide)⟩
  | j + 11, hj => simp at hj
theorem z_sl11_9 {a0 a1 a2 a3 a4 a5 a6 a7 a8 a9 a10 : Option z_V} {v : z_V} (h : z_nl a8 = true) : z_stOkL [a0, a1, a2, a3, a4, a5, a6, a7, a8, a9, a10] [a0, a1, a2, a3, a4, a5, a6, a7, a8, some v, none] 9 v := by
  intro j w hj
  match j, hj with
  | 0, hj => exact Or.inr ⟨by decide, by decide, hj, fun q => absurd q (by decide)⟩
  | 1, hj => exact Or.inr ⟨by decide, by decide, hj, fun q => absurd q (by decide)⟩
  | 2, hj => exact Or.inr ⟨by decide, by decide, hj, fun q => absurd q (by decide)⟩
  | 3, hj => exact Or.inr ⟨by decide, by decide, hj, fun q => absurd q (by decide)⟩
  | 4, hj => exact Or.inr ⟨by decide, by decide, hj, fun q => absurd q (by decide)⟩
  | 5, hj => exact Or.inr ⟨by decide, by decide, hj, fun q => absurd q (by decide)⟩
  | 6, hj => exact Or.inr ⟨by decide, by decide, hj, fun q => absurd q (by decide)⟩
  | 7, hj => exact Or.inr ⟨by decide, by decide, hj, fun q => absurd q (by decide)⟩
  | 8, hj => exact Or.inr ⟨by decide, by decide, hj, fun _ => by rw [← Option.some.inj hj]; exact h⟩
  | 9, hj => exact Or.inl ⟨rfl, (Option.some.inj (Option.some.inj hj)).symm⟩
  | 10, hj => cases hj
  | j + 11, hj => simp at hj
theorem z_so2_1 {a0 a1 : Option z_V} {v : z_V} (h : z_nl a0 = true) : z_stOk [a0, a1] [a0, some v] 1 v := by
  intro j w hj
  match j, hj with
  | 0, hj => exact Or.inr ⟨by decide, hj, fun _ => by rw [← Option.some.inj hj]; exact h⟩
  | 1, hj => exact Or.inl ⟨rfl, (Option.some.inj (Option.some.inj hj)).symm⟩
  | j + 2, hj => simp at hj
theorem z_so3_1 {a0 a1 a2 : Option z_V} {v : z_V} (h : z_nl a0 = true) : z_stOk [a0, a1, a2] [a0, some v, a2] 1 v := by
  intro j w hj
  match j, hj with
  | 0, hj => exact Or.inr ⟨by decide, hj, fun _ => by rw [← Option.some.inj hj]; exact h⟩
  | 1, hj => exact Or.inl ⟨rfl, (Option.some.inj (Option.some.inj hj)).symm⟩
  | 2, hj => exact Or.inr ⟨by decide, hj, fun q => absurd q (by decide)⟩
  | j + 3, hj => simp at hj
theorem z_so3_2 {a0 a1 a2 : Option z_V} {v : z_V} (h : z_nl a1 = true) : z_stOk [a0, a1, a2] [a0, a1, some v] 2 v := by
  intro j w hj
  match j, hj with
  | 0, hj => exact Or.inr ⟨by decide, hj, fun q => absurd q (by decide)⟩
  | 1, hj => exact Or.inr ⟨by decide, hj, fun _ => by rw [← Option.some.inj hj]; exact h⟩
  | 2, hj => exact Or.inl ⟨rfl, (Option.some.inj (Option.some.inj hj)).symm⟩
  | j + 3, hj => simp at hj
theorem z_so4_1 {a0 a1 a2 a3 : Option z_V} {v : z_V} (h : z_nl a0 = true) : z_stOk [a0, a1, a2, a3] [a0, some v, a2, a3] 1 v := by
  intro j w hj
  match j, hj with
  | 0, hj => exact Or.inr ⟨by decide, hj, fun _ => by rw [← Option.some.inj hj]; exact h⟩
  | 1, hj => exact Or.inl ⟨rfl, (Option.some.inj (Option.some.inj hj)).symm⟩
  | 2, hj => exact Or.inr ⟨by decide, hj, fun q => absurd q (by decide)⟩
  | 3, hj => exact Or.inr ⟨by decide, hj, fun q => absurd q (by decide)⟩
  | j + 4, hj => simp at hj
theorem z_so4_2 {a0 a1 a2 a3 : Option z_V} {v : z_V} (h : z_nl a1 = true) : z_stOk [a0, a1, a2, a3] [a0, a1, some v, a3] 2 v := by
  intro j w hj
  match j, hj with
  | 0, hj => exact Or.inr ⟨by decide, hj, fun q => absurd q (by decide)⟩
  | 1, hj => exact Or.inr ⟨by decide, hj, fun _ => by rw [← Option.some.inj hj]; exact h⟩
  | 2, hj => exact Or.inl ⟨rfl, (Option.some.inj (Option.some.inj hj)).symm⟩
  | 3, hj => exact Or.inr ⟨by decide, hj, fun q => absurd q (by decide)⟩
  | j + 4, hj => simp at hj
theorem z_so4_3 {a0 a1 a2 a3 : Option z_V} {v : z_V} (h : z_nl a2 = true) : z_stOk [a0, a1, a2, a3] [a0, a1, a2, some v] 3 v := by
  intro j w hj
  match j, hj with
  | 0, hj => exact Or.inr ⟨by decide, hj, fun q => absurd q (by decide)⟩
  | 1, hj => exact Or.inr ⟨by decide, hj, fun q => absurd q (by decide)⟩
  | 2, hj => exact Or.inr ⟨by decide, hj, fun _ => by rw [← Option.some.inj hj]; exact h⟩
  | 3, hj => exact Or.inl ⟨rfl, (Option.some.inj (Option.some.inj hj)).symm⟩
  | j + 4, hj => simp at hj
theorem z_so5_1 {a0 a1 a2 a3 a4 : Option z_V} {v : z_V} (h : z_nl a0 = true) : z_stOk [a0, a1, a2, a3, a4] [a0, some v, a2, a3, a4] 1 v := by
  intro j w hj
  match j, hj with
  | 0, hj => exact Or.inr ⟨by decide, hj, fun _ => by rw [← Option.some.inj hj]; exact h⟩
  | 1, hj => exact Or.inl ⟨rfl, (Option.some.inj (Option.some.inj hj)).symm⟩
  | 2, hj => exact Or.inr ⟨by decide, hj, fun q => absurd q (by decide)⟩
  | 3, hj => exact Or.inr ⟨by decide, hj, fun q => absurd q (by decide)⟩
  | 4, hj => exact Or.inr ⟨by decide, hj, fun q => absurd q (by decide)⟩
  | j + 5, hj => simp at hj
theorem z_so5_2 {a0 a1 a2 a3 a4 : Option z_V} {v : z_V} (h : z_nl a1 = true) : z_stOk [a0, a1, a2, a3, a4] [a0, a1, some v, a3, a4] 2 v := by
  intro j w hj
  match j, hj with
  | 0, hj => exact Or.inr ⟨by decide, hj, fun q => absurd q (by decide)⟩
  | 1, hj => exact Or.inr ⟨by decide, hj, fun _ => by rw [← Option.some.inj hj]; exact h⟩
  | 2, hj => exact Or.inl ⟨rfl, (Option.some.inj (Option.some.inj hj)).symm⟩
  | 3, hj => exact Or.inr ⟨by decide, hj, fun q => absurd q (by decide)⟩
  | 4, hj => exact Or.inr ⟨by decide, hj, fun q => absurd q (by decide)⟩
  | j + 5, hj => simp at hj
theorem z_so5_3 {a0 a1 a2 a3 a4 : Option z_V} {v : z_V} (h : z_nl a2 = true) : z_stOk [a0, a1, a2, a3, a4] [a0, a1, a2, some v, a4] 3 v := by
  intro j w hj
  match j, hj with
  | 0, hj => exact Or.inr ⟨by decide, hj, fun q => absurd q (by decide)⟩
  | 1, hj => exact Or.inr ⟨by decide, hj, fun q => absurd q (by decide)⟩
  | 2, hj => exact Or.inr ⟨by decide, hj, fun _ => by rw [← Option.some.inj hj]; exact h⟩
  | 3, hj => exact Or.inl ⟨rfl, (Option.some.inj (Option.some.inj hj)).symm⟩
  | 4, hj => exact Or.inr ⟨by decide, hj, fun q => absurd q (by decide)⟩
  | j + 5, hj => simp at hj
theorem z_so5_4 {a0 a1 a2 a3 a4 : Option z_V} {v : z_V} (h : z_nl a3 = true) : z_stOk [a0, a1, a2, a3, a4] [a0, a1, a2, a3, some v] 4 v := by
  intro j w hj
  match j, hj with
  | 0, hj => exact Or.inr ⟨by decide, hj, fun q => absurd q (by decide)⟩
  | 1, hj => exact Or.inr ⟨by decide, hj, fun q => absurd q (by decide)⟩
  | 2, hj => exact Or.inr ⟨by decide, hj, fun q => absurd q (by decide)⟩
  | 3, hj => exact Or.inr ⟨by decide, hj, fun _ => by rw [← Option.some.inj hj]; exact h⟩
  | 4, hj => exact Or.inl ⟨rfl, (Option.some.inj (Option.some.inj hj)).symm⟩
  | j + 5, hj => simp at hj
theorem z_so6_2 {a0 a1 a2 a3 a4 a5 : Option z_V} {v : z_V} (h : z_nl a1 = true) : z_stOk [a0, a1, a2, a3, a4, a5] [a0, a1, some v, a3, a4, a5] 2 v := by
  intro j w hj
  match j, hj with
  | 0, hj => exact Or.inr ⟨by decide, hj, fun q => absurd q (by decide)⟩
  | 1, hj => exact Or.inr ⟨by decide, hj, fun _ => by rw [← Option.some.inj hj]; exact h⟩
  | 2, hj => exact Or.inl ⟨rfl, (Option.some.inj (Option.some.inj hj)).symm⟩
  | 3, hj => exact Or.inr ⟨by decide, hj, fun q => absurd q (by decide)⟩
  | 4, hj => exact Or.inr ⟨by decide, hj, fun q => absurd q (by decide)⟩
  | 5, hj => exact Or.inr ⟨by decide, hj, fun q => absurd q (by decide)⟩
  | j + 6, hj => simp at hj
theorem z_so6_3 {a0 a1 a2 a3 a4 a5 : Option z_V} {v : z_V} (h : z_nl a2 = true) : z_stOk [a0, a1, a2, a3, a4, a5] [a0, a1, a2, some v, a4, a5] 3 v := by
  intro j w hj
  match j, hj with
  | 0, hj => exact Or.inr ⟨by decide, hj, fun q => absurd q (by decide)⟩
  | 1, hj => exact Or.inr ⟨by decide, hj, fun q => absurd q (by decide)⟩
  | 2, hj => exact Or.inr ⟨by decide, hj, fun _ => by rw [← Option.some.inj hj]; exact h⟩
  | 3, hj => exact Or.inl ⟨rfl, (Option.some.inj (Option.some.inj hj)).symm⟩
  | 4, hj => exact Or.inr ⟨by decide, hj, fun q => absurd q (by decide)⟩
  | 5, hj => exact Or.inr ⟨by decide, hj, fun q => absurd q (by decide)⟩
  | j + 6, hj => simp at hj
theorem z_so6_4 {a0 a1 a2 a3 a4 a5 : Option z_V} {v : z_V} (h : z_nl a3 = true) : z_stOk [a0, a1, a2, a3, a4, a5] [a0, a1, a2, a3, some v, a5] 4 v := by
  intro j w hj
  match j, hj with
  | 0, hj => exact Or.inr ⟨by decide, hj, fun q => absurd q (by decide)⟩
  | 1, hj => exact Or.inr ⟨by decide, hj, fun q => absurd q (by decide)⟩
  | 2, hj => exact Or.inr ⟨by decide, hj, fun q => absurd q (by decide)⟩
  | 3, hj => exact Or.inr ⟨by decide, hj, fun _ => by rw [← Option.some.inj hj]; exact h⟩
  | 4, hj => exact Or.inl ⟨rfl, (Option.some.inj (Option.some.inj hj)).symm⟩
  | 5, hj => exact Or.inr ⟨by decide, hj, fun q => absurd q (by decide)⟩
  | j + 6, hj => simp at hj
theorem z_so6_5 {a0 a1 a2 a3 a4 a5 : Option z_V} {v : z_V} (h : z_nl a4 = true) : z_stOk [a0, a1, a2, a3, a4, a5] [a0, a1, a2, a3, a4, some v] 5 v := by
  intro j w hj
  match j, hj with
  | 0, hj => exact Or.inr ⟨by decide, hj, fun q => absurd q (by decide)⟩
  | 1, hj => exact Or.inr ⟨by decide, hj, fun q => absurd q (by decide)⟩
  | 2, hj => exact Or.inr ⟨by decide, hj, fun q => absurd q (by decide)⟩
  | 3, hj => exact Or.inr ⟨by decide, hj, fun q => absurd q (by decide)⟩
  | 4, hj => exact Or.inr ⟨by decide, hj, fun _ => by rw [← Option.some.inj hj]; exact h⟩
  | 5, hj => exact Or.inl ⟨rfl, (Option.some.inj (Option.some.inj hj)).symm⟩
  | j + 6, hj => simp at hj
theorem z_so7_2 {a0 a1 a2 a3 a4 a5 a6 : Option z_V} {v : z_V} (h : z_nl a1 = true) : z_stOk [a0, a1, a2, a3, a4, a5, a6] [a0, a1, some v, a3, a4, a5, a6] 2 v := by
  intro j w hj
  match j, hj with
  | 0, hj => exact Or.inr ⟨by decide, hj, fun q => absurd q (by decide)⟩
  | 1, hj => exact Or.inr ⟨by decide, hj, fun _ => by rw [← Option.some.inj hj]; exact h⟩
  | 2, hj => exact Or.inl ⟨rfl, (Option.some.inj (Option.some.inj hj)).symm⟩
  | 3, hj => exact Or.inr ⟨by decide, hj, fun q => absurd q (by decide)⟩
  | 4, hj => exact Or.inr ⟨by decide, hj, fun q => absurd q (by decide)⟩
  | 5, hj => exact Or.inr ⟨by decide, hj, fun q => absurd q (by decide)⟩
  | 6, hj => exact Or.inr ⟨by decide, hj, fun q => absurd q (by decide)⟩
  | j + 7, hj => simp at hj
theorem z_so7_3 {a0 a1 a2 a3 a4 a5 a6 : Option z_V} {v : z_V} (h : z_nl a2 = true) : z_stOk [a0, a1, a2, a3, a4, a5, a6] [a0, a1, a2, some v, a4, a5, a6] 3 v := by
  intro j w hj
  match j, hj with
  | 0, hj => exact Or.inr ⟨by decide, hj, fun q => absurd q (by decide)⟩
  | 1, hj => exact Or.inr ⟨by decide, hj, fun q => absurd q (by decide)⟩
  | 2, hj => exact Or.inr ⟨by decide, hj, fun _ => by rw [← Option.some.inj hj]; exact h⟩
  | 3, hj => exact Or.inl ⟨rfl, (Option.some.inj (Option.some.inj hj)).symm⟩
  | 4, hj => exact Or.inr ⟨by decide, hj, fun q => absurd q (by decide)⟩
  | 5, hj => exact Or.inr ⟨by decide, hj, fun q => absurd q (by decide)⟩
  | 6, hj => exact Or.inr ⟨by decide, hj, fun q => absurd q (by decide)⟩
  | j + 7, hj => simp at hj
theorem z_so7_4 {a0 a1 a2 a3 a4 a5 a6 : Option z_V} {v : z_V} (h : z_nl a3 = true) : z_stOk [a0, a1, a2, a3, a4, a5, a6] [a0, a1, a2, a3, some v, a5, a6] 4 v := by
  intro j w hj
  match j, hj with
  | 0, hj => exact Or.inr ⟨by decide, hj, fun q => absurd q (by decide)⟩
  | 1, hj => exact Or.inr ⟨by decide, hj, fun q => absurd q (by decide)⟩
  | 2, hj => exact Or.inr ⟨by decide, hj, fun q => absurd q (by decide)⟩
  | 3, hj => exact Or.inr ⟨by decide, hj, fun _ => by rw [← Option.some.inj hj]; exact h⟩
  | 4, hj => exact Or.inl ⟨rfl, (Option.some.inj (Option.some.inj hj)).symm⟩
  | 5, hj => exact Or.inr ⟨by decide, hj, fun q => absurd q (by decide)⟩
  | 6, hj => exact Or.inr ⟨by decide, hj, fun q => absurd q (by decide)⟩
  | j + 7, hj => simp at hj
theorem z_so7_5 {a0 a1 a2 a3 a4 a5 a6 : Option z_V} {v : z_V} (h : z_nl a4 = true) : z_stOk [a0, a1, a2, a3, a4, a5, a6] [a0, a1, a2, a3, a4, some v, a6] 5 v := by
  intro j w hj
  match j, hj with
  | 0, hj => exact Or.inr ⟨by decide, hj, fun q => absurd q (by decide)⟩
  | 1, hj => exact Or.inr ⟨by decide, hj, fun q => absurd q (by decide)⟩
  | 2, hj => exact Or.inr ⟨by decide, hj, fun q => absurd q (by decide)⟩
  | 3, hj => exact Or.inr ⟨by decide, hj, fun q => absurd q (by decide)⟩
  | 4, hj => exact Or.inr ⟨by decide, hj, fun _ => by rw [← Option.some.inj hj]; exact h⟩
  | 5, hj => exact Or.inl ⟨rfl, (Option.some.inj (Option.some.inj hj)).symm⟩
  | 6, hj => exact Or.inr ⟨by decide, hj, fun q => absurd q (by decide)⟩
  | j + 7, hj => simp at hj
theorem z_so7_6 {a0 a1 a2 a3 a4 a5 a6 : Option z_V} {v : z_V} (h : z_nl a5 = true) : z_stOk [a0, a1, a2, a3, a4, a5, a6] [a0, a1, a2, a3, a4, a5, some v] 6 v := by
  intro j w hj
  match j, hj with
  | 0, hj => exact Or.inr ⟨by decide, hj, fun q => absurd q (by decide)⟩
  | 1, hj => exact Or.inr ⟨by decide, hj, fun q => absurd q (by decide)⟩
  | 2, hj => exact Or.inr ⟨by decide, hj, fun q => absurd q (by decide)⟩
  | 3, hj => exact Or.inr ⟨by decide, hj, fun q => absurd q (by decide)⟩
  | 4, hj => exact Or.inr ⟨by decide, hj, fun q => absurd q (by decide)⟩
  | 5, hj => exact Or.inr ⟨by decide, hj, fun _ => by rw [← Option.some.inj hj]; exact h⟩
  | 6, hj => exact Or.inl ⟨rfl, (Option.some.inj (Option.some.inj hj)).symm⟩
  | j + 7, hj => simp at hj
theorem z_so8_3 {a0 a1 a2 a3 a4 a5 a6 a7 : Option z_V} {v : z_V} (h : z_nl a2 = true) : z_stOk [a0, a1, a2, a3, a4, a5, a6, a7] [a0, a1, a2, some v, a4, a5, a6, a7] 3 v := by
  intro j w hj
  match j, hj with
  | 0, hj => exact Or.inr ⟨by decide, hj, fun q => absurd q (by decide)⟩
  | 1, hj => exact Or.inr ⟨by decide, hj, fun q => absurd q (by decide)⟩
  | 2, hj => exact Or.inr ⟨by decide, hj, fun _ => by rw [← Option.some.inj hj]; exact h⟩
  | 3, hj => exact Or.inl ⟨rfl, (Option.some.inj (Option.some.inj hj)).symm⟩
  | 4, hj => exact Or.inr ⟨by decide, hj, fun q => absurd q (by decide)⟩
  | 5, hj => exact Or.inr ⟨by decide, hj, fun q => absurd q (by decide)⟩
  | 6, hj => exact Or.inr ⟨by decide, hj, fun q => absurd q (by decide)⟩
  | 7, hj => exact Or.inr ⟨by decide, hj, fun q => absurd q (by decide)⟩
  | j + 8, hj => simp at hj
theorem z_so8_4 {a0 a1 a2 a3 a4 a5 a6 a7 : Option z_V} {v : z_V} (h : z_nl a3 = true) : z_stOk [a0, a1, a2, a3, a4, a5, a6, a7] [a0, a1, a2, a3, some v, a5, a6, a7] 4 v := by
  intro j w hj
  match j, hj with
  | 0, hj => exact Or.inr ⟨by decide, hj, fun q => absurd q (by decide)⟩
  | 1, hj => exact Or.inr ⟨by decide, hj, fun q => absurd q (by decide)⟩
  | 2, hj => exact Or.inr ⟨by decide, hj, fun q => absurd q (by decide)⟩
  | 3, hj => exact Or.inr ⟨by decide, hj, fun _ => by rw [← Option.some.inj hj]; exact h⟩
  | 4, hj => exact Or.inl ⟨rfl, (Option.some.inj (Option.some.inj hj)).symm⟩
  | 5, hj => exact Or.inr ⟨by decide, hj, fun q => absurd q (by decide)⟩
  | 6, hj => exact Or.inr ⟨by decide, hj, fun q => absurd q (by decide)⟩
  | 7, hj => exact Or.inr ⟨by decide, hj, fun q => absurd q (by decide)⟩
  | j + 8, hj => simp at hj
theorem z_so8_5 {a0 a1 a2 a3 a4 a5 a6 a7 : Option z_V} {v : z_V} (h : z_nl a4 = true) : z_stOk [a0, a1, a2, a3, a4, a5, a6, a7] [a0, a1, a2, a3, a4, some v, a6, a7] 5 v := by
  intro j w hj
  match j, hj with
  | 0, hj => exact Or.inr ⟨by decide, hj, fun q => absurd q (by decide)⟩
  | 1, hj => exact Or.inr ⟨by decide, hj, fun q => absurd q (by decide)⟩
  | 2, hj => exact Or.inr ⟨by decide, hj, fun q => absurd q (by decide)⟩
  | 3, hj => exact Or.inr ⟨by decide, hj, fun q => absurd q (by decide)⟩
  | 4, hj => exact Or.inr ⟨by decide, hj, fun _ => by rw [← Option.some.inj hj]; exact h⟩
  | 5, hj => exact Or.inl ⟨rfl, (Option.some.inj (Option.some.inj hj)).symm⟩
  | 6, hj => exact Or.inr ⟨by decide, hj, fun q => absurd q (by decide)⟩
  | 7, hj => exact Or.inr ⟨by decide, hj, fun q => absurd q (by decide)⟩
  | j + 8, hj => simp at hj
theorem z_so8_6 {a0 a1 a2 a3 a4 a5 a6 a7 : Option z_V} {v : z_V} (h : z_nl a5 = true) : z_stOk [a0, a1, a2, a3, a4, a5, a6, a7] [a0, a1, a2, a3, a4, a5, some v, a7] 6 v := by
  intro j w hj
  match j, hj with
  | 0, hj => exact Or.inr ⟨by decide, hj, fun q => absurd q (by decide)⟩
  | 1, hj => exact Or.inr ⟨by decide, hj, fun q => absurd q (by decide)⟩
  | 2, hj => exact Or.inr ⟨by decide, hj, fun q => absurd q (by decide)⟩
  | 3, hj => exact Or.inr ⟨by decide, hj, fun q => absurd q (by decide)⟩
  | 4, hj => exact Or.inr ⟨by decide, hj, fun q => absurd q (by decide)⟩
  | 5, hj => exact Or.inr ⟨by decide, hj, fun _ => by rw [← Option.some.inj hj]; exact h⟩
  | 6, hj => exact Or.inl ⟨rfl, (Option.some.inj (Option.some.inj hj)).symm⟩
  | 7, hj => exact Or.inr ⟨by decide, hj, fun q => absurd q (by decide)⟩
  | j + 8, hj => simp at hj
theorem z_so8_7 {a0 a1 a2 a3 a4 a5 a6 a7 : Option z_V} {v : z_V} (h : z_nl a6 = true) : z_stOk [a0, a1, a2, a3, a4, a5, a6, a7] [a0, a1, a2, a3, a4, a5, a6, some v] 7 v := by
  intro j w hj
  match j, hj with
  | 0, hj => exact Or.inr ⟨by decide, hj, fun q => absurd q (by decide)⟩
  | 1, hj => exact Or.inr ⟨by decide, hj, fun q => absurd q (by decide)⟩
  | 2, hj => exact Or.inr ⟨by decide, hj, fun q => absurd q (by decide)⟩
  | 3, hj => exact Or.inr ⟨by decide, hj, fun q => absurd q (by decide)⟩
  | 4, hj => exact Or.inr ⟨by decide, hj, fun q => absurd q (by decide)⟩
  | 5, hj => exact Or.inr ⟨by decide, hj, fun q => absurd q (by decide)⟩
  | 6, hj => exact Or.inr ⟨by decide, hj, fun _ => by rw [← Option.some.inj hj]; exact h⟩
  | 7, hj => exact Or.inl ⟨rfl, (Option.some.inj (Option.some.inj hj)).symm⟩
  | j + 8, hj => simp at hj
theorem z_so9_4 {a0 a1 a2 a3 a4 a5 a6 a7 a8 : Option z_V} {v : z_V} (h : z_nl a3 = true) : z_stOk [a0, a1, a2, a3, a4, a5, a6, a7, a8] [a0, a1, a2, a3, some v, a5, a6, a7, a8] 4 v := by
  intro j w hj
  match j, hj with
  | 0, hj => exact Or.inr ⟨by decide, hj, fun q => absurd q (by decide)⟩
  | 1, hj => exact Or.inr ⟨by decide, hj, fun q => absurd q (by decide)⟩
  | 2, hj => exact Or.inr ⟨by decide, hj, fun q => absurd q (by decide)⟩
  | 3, hj => exact Or.inr ⟨by decide, hj, fun _ => by rw [← Option.some.inj hj]; exact h⟩
  | 4, hj => exact Or.inl ⟨rfl, (Option.some.inj (Option.some.inj hj)).symm⟩
  | 5, hj => exact Or.inr ⟨by decide, hj, fun q => absurd q (by decide)⟩
  | 6, hj => exact Or.inr ⟨by decide, hj, fun q => absurd q (by decide)⟩
  | 7, hj => exact Or.inr ⟨by decide, hj, fun q => absurd q (by decide)⟩
  | 8, hj => exact Or.inr ⟨by decide, hj, fun q => absurd q (by decide)⟩
  | j + 9, hj => simp at hj
theorem z_so9_5 {a0 a1 a2 a3 a4 a5 a6 a7 a8 : Option z_V} {v : z_V} (h : z_nl a4 = true) : z_stOk [a0, a1, a2, a3, a4, a5, a6, a7, a8] [a0, a1, a2, a3, a4, some v, a6, a7, a8] 5 v := by
  intro j w hj
  match j, hj with
  | 0, hj => exact Or.inr ⟨by decide, hj, fun q => absurd q (by decide)⟩
  | 1, hj => exact Or.inr ⟨by decide, hj, fun q => absurd q (by decide)⟩
  | 2, hj => exact Or.inr ⟨by decide, hj, fun q => absurd q (by decide)⟩
  | 3, hj => exact Or.inr ⟨by decide, hj, fun q => absurd q (by decide)⟩
  | 4, hj => exact Or.inr ⟨by decide, hj, fun _ => by rw [← Option.some.inj hj]; exact h⟩
  | 5, hj => exact Or.inl ⟨rfl, (Option.some.inj (Option.some.inj hj)).symm⟩
  | 6, hj => exact Or.inr ⟨by decide, hj, fun q => absurd q (by decide)⟩
  | 7, hj => exact Or.inr ⟨by decide, hj, fun q => absurd q (by decide)⟩
  | 8, hj => exact Or.inr ⟨by decide, hj, fun q => absurd q (by decide)⟩
  | j + 9, hj => simp at hj
theorem z_so9_6 {a0 a1 a2 a3 a4 a5 a6 a7 a8 : Option z_V} {v : z_V} (h : z_nl a5 = true) : z_stOk [a0, a1, a2, a3, a4, a5, a6, a7, a8] [a0, a1, a2, a3, a4, a5, some v, a7, a8] 6 v := by
  intro j w hj
  match j, hj with
  | 0, hj => exact Or.inr ⟨by decide, hj, fun q => absurd q (by decide)⟩
  | 1, hj => exact Or.inr ⟨by decide, hj, fun q => absurd q (by decide)⟩
  | 2, hj => exact Or.inr ⟨by decide, hj, fun q => absurd q (by decide)⟩
  | 3, hj => exact Or.inr ⟨by decide, hj, fun q => absurd q (by decide)⟩
  | 4, hj => exact Or.inr ⟨by decide, hj, fun q => absurd q (by decide)⟩
  | 5, hj => exact Or.inr ⟨by decide, hj, fun _ => by rw [← Option.some.inj hj]; exact h⟩
  | 6, hj => exact Or.inl ⟨rfl, (Option.some.inj (Option.some.inj hj)).symm⟩
  | 7, hj => exact Or.inr ⟨by decide, hj, fun q => absurd q (by decide)⟩
  | 8, hj => exact Or.inr ⟨by decide, hj, fun q => absurd q (by decide)⟩
  | j + 9, hj => simp at hj
theorem z_so9_7 {a0 a1 a2 a3 a4 a5 a6 a7 a8 : Option z_V} {v : z_V} (h : z_nl a6 = true) : z_stOk [a0, a1, a2, a3, a4, a5, a6, a7, a8] [a0, a1, a2, a3, a4, a5, a6, some v, a8] 7 v := by
  intro j w hj
  match j, hj with
  | 0, hj => exact Or.inr ⟨by decide, hj, fun q => absurd q (by decide)⟩
  | 1, hj => exact Or.inr ⟨by decide, hj, fun q => absurd q (by decide)⟩
  | 2, hj => exact Or.inr ⟨by decide, hj, fun q => absurd q (by decide)⟩
  | 3, hj => exact Or.inr ⟨by decide, hj, fun q => absurd q (by decide)⟩
  | 4, hj => exact Or.inr ⟨by decide, hj, fun q => absurd q (by decide)⟩
  | 5, hj => exact Or.inr ⟨by decide, hj, fun q => absurd q (by decide)⟩
  | 6, hj => exact Or.inr ⟨by decide, hj, fun _ => by rw [← Option.some.inj hj]; exact h⟩
  | 7, hj => exact Or.inl ⟨rfl, (Option.some.inj (Option.some.inj hj)).symm⟩
  | 8, hj => exact Or.inr ⟨by decide, hj, fun q => absurd q (by decide)⟩
  | j + 9, hj => simp at hj
theorem z_so9_8 {a0 a1 a2 a3 a4 a5 a6 a7 a8 : Option z_V} {v : z_V} (h : z_nl a7 = true) : z_stOk [a0, a1, a2, a3, a4, a5, a6, a7, a8] [a0, a1, a2, a3, a4, a5, a6, a7, some v] 8 v := by
  intro j w hj
  match j, hj with
  | 0, hj => exact Or.inr ⟨by decide, hj, fun q => absurd q (by decide)⟩
  | 1, hj => exact Or.inr ⟨by decide, hj, fun q => absurd q (by decide)⟩
  | 2, hj => exact Or.inr ⟨by decide, hj, fun q => absurd q (by decide)⟩
  | 3, hj => exact Or.inr ⟨by decide, hj, fun q => absurd q (by decide)⟩
  | 4, hj => exact Or.inr ⟨by decide, hj, fun q => absurd q (by decide)⟩
  | 5, hj => exact Or.inr ⟨by decide, hj, fun q => absurd q (by decide)⟩
  | 6, hj => exact Or.inr ⟨by decide, hj, fun q => absurd q (by decide)⟩
  | 7, hj => exact Or.inr ⟨by decide, hj, fun _ => by rw [← Option.some.inj hj]; exact h⟩
  | 8, hj => exact Or.inl ⟨rfl, (Option.some.inj (Option.some.inj hj)).symm⟩
  | j + 9, hj => simp at hj
theorem z_so10_4 {a0 a1 a2 a3 a4 a5 a6 a7 a8 a9 : Option z_V} {v : z_V} (h : z_nl a3 = true) : z_stOk [a0, a1, a2, a3, a4, a5, a6, a7, a8, a9] [a0, a1, a2, a3, some v, a5, a6, a7, a8, a9] 4 v := by
  intro j w hj
  match j, hj with
  | 0, hj => exact Or.inr ⟨by decide, hj, fun q => absurd q (by decide)⟩
  | 1, hj => exact Or.inr ⟨by decide, hj, fun q => absurd q (by decide)⟩
  | 2, hj => exact Or.inr ⟨by decide, hj, fun q => absurd q (by decide)⟩
  | 3, hj => exact Or.inr ⟨by decide, hj, fun _ => by rw [← Option.some.inj hj]; exact h⟩
  | 4, hj => exact Or.inl ⟨rfl, (Option.some.inj (Option.some.inj hj)).symm⟩
  | 5, hj => exact Or.inr ⟨by decide, hj, fun q => absurd q (by decide)⟩
  | 6, hj => exact Or.inr ⟨by decide, hj, fun q => absurd q (by decide)⟩
  | 7, hj => exact Or.inr ⟨by decide, hj, fun q => absurd q (by decide)⟩
  | 8, hj => exact Or.inr ⟨by decide, hj, fun q => absurd q (by decide)⟩
  | 9, hj => exact Or.inr ⟨by decide, hj, fun q => absurd q (by decide)⟩
  | j + 10, hj => simp at hj
theorem z_so10_5 {a0 a1 a2 a3 a4 a5 a6 a7 a8 a9 : Option z_V} {v : z_V} (h : z_nl a4 = true) : z_stOk [a0, a1, a2, a3, a4, a5, a6, a7, a8, a9] [a0, a1, a2, a3, a4, some v, a6, a7, a8, a9] 5 v := by
  intro j w hj
  match j, hj with
  | 0, hj => exact Or.inr ⟨by decide, hj, fun q => absurd q (by decide)⟩
  | 1, hj => exact Or.inr ⟨by decide, hj, fun q => absurd q (by decide)⟩
  | 2, hj => exact Or.inr ⟨by decide, hj, fun q => absurd q (by decide)⟩
  | 3, hj => exact Or.inr ⟨by decide, hj, fun q => absurd q (by decide)⟩
  | 4, hj => exact Or.inr ⟨by decide, hj, fun _ => by rw [← Option.some.inj hj]; exact h⟩
  | 5, hj => exact Or.inl ⟨rfl, (Option.some.inj (Option.some.inj hj)).symm⟩
  | 6, hj => exact Or.inr ⟨by decide, hj, fun q => absurd q (by decide)⟩
  | 7, hj => exact Or.inr ⟨by decide, hj, fun q => absurd q (by decide)⟩
  | 8, hj => exact Or.inr ⟨by decide, hj, fun q => absurd q (by decide)⟩
  | 9, hj => exact Or.inr ⟨by decide, hj, fun q => absurd q (by decide)⟩
  | j + 10, hj => simp at hj
theorem z_so10_6 {a0 a1 a2 a3 a4 a5 a6 a7 a8 a9 : Option z_V} {v : z_V} (h : z_nl a5 = true) : z_stOk [a0, a1, a2, a3, a4, a5, a6, a7, a8, a9] [a0, a1, a2, a3, a4, a5, some v, a7, a8, a9] 6 v := by
  intro j w hj
  match j, hj with
  | 0, hj => exact Or.inr ⟨by decide, hj, fun q => absurd q (by decide)⟩
  | 1, hj => exact Or.inr ⟨by decide, hj, fun q => absurd q (by decide)⟩
  | 2, hj => exact Or.inr ⟨by decide, hj, fun q => absurd q (by decide)⟩
  | 3, hj => exact Or.inr ⟨by decide, hj, fun q => absurd q (by decide)⟩
  | 4, hj => exact Or.inr ⟨by decide, hj, fun q => absurd q (by decide)⟩
  | 5, hj => exact Or.inr ⟨by decide, hj, fun _ => by rw [← Option.some.inj hj]; exact h⟩
  | 6, hj => exact Or.inl ⟨rfl, (Option.some.inj (Option.some.inj hj)).symm⟩
  | 7, hj => exact Or.inr ⟨by decide, hj, fun q => absurd q (by decide)⟩
  | 8, hj => exact Or.inr ⟨by decide, hj, fun q => absurd q (by decide)⟩
  | 9, hj => exact Or.inr ⟨by decide, hj, fun q => absurd q (by decide)⟩
  | j + 10, hj => simp at hj
theorem z_so10_7 {a0 a1 a2 a3 a4 a5 a6 a7 a8 a9 : Option z_V} {v : z_V} (h : z_nl a6 = true) : z_stOk [a0, a1, a2, a3, a4, a5, a6, a7, a8, a9] [a0, a1, a2, a3, a4, a5, a6, some v, a8, a9] 7 v := by
  intro j w hj
  match j, hj with
  | 0, hj => exact Or.inr ⟨by decide, hj, fun q => absurd q (by decide)⟩
  | 1, hj => exact Or.inr ⟨by decide, hj, fun q => absurd q (by decide)⟩
  | 2, hj => exact Or.inr ⟨by decide, hj, fun q => absurd q (by decide)⟩
  | 3, hj => exact Or.inr ⟨by decide, hj, fun q => absurd q (by decide)⟩
  | 4, hj => exact Or.inr ⟨by decide, hj, fun q => absurd q (by decide)⟩
  | 5, hj => exact Or.inr ⟨by decide, hj, fun q => absurd q (by decide)⟩
  | 6, hj => exact Or.inr ⟨by decide, hj, fun _ => by rw [← Option.some.inj hj]; exact h⟩
  | 7, hj => exact Or.inl ⟨rfl, (Option.some.inj (Option.some.inj hj)).symm⟩
  | 8, hj => exact Or.inr ⟨by decide, hj, fun q => absurd q (by decide)⟩
  | 9, hj => exact Or.inr ⟨by decide, hj, fun q => absurd q (by decide)⟩
  | j + 10, hj => simp at hj
theorem z_so10_8 {a0 a1 a2 a3 a4 a5 a6 a7 a8 a9 : Option z_V} {v : z_V} (h : z_nl a7 = true) : z_stOk [a0, a1, a2, a3, a4, a5, a6, a7, a8, a9] [a0, a1, a2, a3, a4, a5, a6, a7, some v, a9] 8 v := by
  intro j w hj
  match j, hj with
  | 0, hj => exact Or.inr ⟨by decide, hj, fun q => absurd q (by decide)⟩
  | 1, hj => exact Or.inr ⟨by decide, hj, fun q => absurd q (by decide)⟩
  | 2, hj => exact Or.inr ⟨by decide, hj, fun q => absurd q (by decide)⟩
  | 3, hj => exact Or.inr ⟨by decide, hj, fun q => absurd q (by decide)⟩
  | 4, hj => exact Or.inr ⟨by decide, hj, fun q => absurd q (by decide)⟩
  | 5, hj => exact Or.inr ⟨by decide, hj, fun q => absurd q (by decide)⟩
  | 6, hj => exact Or.inr ⟨by decide, hj, fun q => absurd q (by decide)⟩
  | 7, hj => exact Or.inr ⟨by decide, hj, fun _ => by rw [← Option.some.inj hj]; exact h⟩
  | 8, hj => exact Or.inl ⟨rfl, (Option.some.inj (Option.some.inj hj)).symm⟩
  | 9, hj => exact Or.inr ⟨by decide, hj, fun q => absurd q (by decide)⟩
  | j + 10, hj => simp at hj
theorem z_so10_9 {a0 a1 a2 a3 a4 a5 a6 a7 a8 a9 : Option z_V} {v : z_V} (h : z_nl a8 = true) : z_stOk [a0, a1, a2, a3, a4, a5, a6, a7, a8, a9] [a0, a1, a2, a3, a4, a5, a6, a7, a8, some v] 9 v := by
  intro j w hj
  match j, hj with
  | 0, hj => exact Or.inr ⟨by decide, hj, fun q => absurd q (by decide)⟩
  | 1, hj => exact Or.inr ⟨by decide, hj, fun q => absurd q (by decide)⟩
  | 2, hj => exact Or.inr ⟨by decide, hj, fun q => absurd q (by decide)⟩
  | 3, hj => exact Or.inr ⟨by decide, hj, fun q => absurd q (by decide)⟩
  | 4, hj => exact Or.inr ⟨by decide, hj, fun q => absurd q (by decide)⟩
  | 5, hj => exact Or.inr ⟨by decide, hj, fun q => absurd q (by decide)⟩
  | 6, hj => exact Or.inr ⟨by decide, hj, fun q => absurd q (by decide)⟩
  | 7, hj => exact Or.inr ⟨by decide, hj, fun q => absurd q (by decide)⟩
  | 8, hj => exact Or.inr ⟨by decide, hj, fun _ => by rw [← Option.some.inj hj]; exact h⟩
  | 9, hj => exact Or.inl ⟨rfl, (Option.some.inj (Option.some.inj hj)).symm⟩
  | j + 10, hj => simp at hj
theorem z_so11_4 {a0 a1 a2 a3 a4 a5 a6 a7 a8 a9 a10 : Option z_V} {v : z_V} (h : z_nl a3 = true) : z_stOk [a0, a1, a2, a3, a4, a5, a6, a7, a8, a9, a10] [a0, a1, a2, a3, some v, a5, a6, a7, a8, a9, a10] 4 v := by
  intro j w hj
  match j, hj with
  | 0, hj => exact Or.inr ⟨by decide, hj, fun q => absurd q (by decide)⟩
  | 1, hj => exact Or.inr ⟨by decide, hj, fun q => absurd q (by decide)⟩
  | 2, hj => exact Or.inr ⟨by decide, hj, fun q => absurd q (by decide)⟩
  | 3, hj => exact Or.inr ⟨by decide, hj, fun _ => by rw [← Option.some.inj hj]; exact h⟩
  | 4, hj => exact Or.inl ⟨rfl, (Option.some.inj (Option.some.inj hj)).symm⟩
  | 5, hj => exact Or.inr ⟨by decide, hj, fun q => absurd q (by decide)⟩
  | 6, hj => exact Or.inr ⟨by decide, hj, fun q => absurd q (by decide)⟩
  | 7, hj => exact Or.inr ⟨by decide, hj, fun q => absurd q (by decide)⟩
  | 8, hj => exact Or.inr ⟨by decide, hj, fun q => absurd q (by decide)⟩
  | 9, hj => exact Or.inr ⟨by decide, hj, fun q => absurd q (by decide)⟩
  | 10, hj => exact Or.inr ⟨by decide, hj, fun q => absurd q (by decide)⟩
  | j + 11, hj => simp at hj
theorem z_so11_5 {a0 a1 a2 a3 a4 a5 a6 a7 a8 a9 a10 : Option z_V} {v : z_V} (h : z_nl a4 = true) : z_stOk [a0, a1, a2, a3, a4, a5, a6, a7, a8, a9, a10] [a0, a1, a2, a3, a4, some v, a6, a7, a8, a9, a10] 5 v := by
  intro j w hj
  match j, hj with
  | 0, hj => exact Or.inr ⟨by decide, hj, fun q => absurd q (by decide)⟩
  | 1, hj => exact Or.inr ⟨by decide, hj, fun q => absurd q (by decide)⟩
  | 2, hj => exact Or.inr ⟨by decide, hj, fun q => absurd q (by decide)⟩
  | 3, hj => exact Or.inr ⟨by decide, hj, fun q => absurd q (by decide)⟩
  | 4, hj => exact Or.inr ⟨by decide, hj, fun _ => by rw [← Option.some.inj hj]; exact h⟩
  | 5, hj => exact Or.inl ⟨rfl, (Option.some.inj (Option.some.inj hj)).symm⟩
  | 6, hj => exact Or.inr ⟨by decide, hj, fun q => absurd q (by decide)⟩
  | 7, hj => exact Or.inr ⟨by decide, hj, fun q => absurd q (by decide)⟩
  | 8, hj => exact Or.inr ⟨by decide, hj, fun q => absurd q (by decide)⟩
  | 9, hj => exact Or.inr ⟨by decide, hj, fun q => absurd q (by decide)⟩
  | 10, hj => exact Or.inr ⟨by decide, hj, fun q => absurd q (by decide)⟩
  | j + 11, hj => simp at hj
theorem z_so11_6 {a0 a1 a2 a3 a4 a5 a6 a7 a8 a9 a10 : Option z_V} {v : z_V} (h : z_nl a5 = true) : z_stOk [a0, a1, a2, a3, a4, a5, a6, a7, a8, a9, a10] [a0, a1, a2, a3, a4, a5, some v, a7, a8, a9, a10] 6 v := by
  intro j w hj
  match j, hj with
  | 0, hj => exact Or.inr ⟨by decide, hj, fun q => absurd q (by decide)⟩
  | 1, hj => exact Or.inr ⟨by decide, hj, fun q => absurd q (by decide)⟩
  | 2, hj => exact Or.inr ⟨by decide, hj, fun q => absurd q (by decide)⟩
  | 3, hj => exact Or.inr ⟨by decide, hj, fun q => absurd q (by decide)⟩
  | 4, hj => exact Or.inr ⟨by decide, hj, fun q => absurd q (by decide)⟩
  | 5, hj => exact Or.inr ⟨by decide, hj, fun _ => by rw [← Option.some.inj hj]; exact h⟩
  | 6, hj => exact Or.inl ⟨rfl, (Option.some.inj (Option.some.inj hj)).symm⟩
  | 7, hj => exact Or.inr ⟨by decide, hj, fun q => absurd q (by decide)⟩
  | 8, hj => exact Or.inr ⟨by decide, hj, fun q => absurd q (by decide)⟩
  | 9, hj => exact Or.inr ⟨by decide, hj, fun q => absurd q (by decide)⟩
  | 10, hj => exact Or.inr ⟨by decide, hj, fun q => absurd q (by decide)⟩
  | j + 11, hj => simp at hj
theorem z_so11_7 {a0 a1 a2 a3 a4 a5 a6 a7 a8 a9 a10 : Option z_V} {v : z_V} (h : z_nl a6 = true) : z_stOk [a0, a1, a2, a3, a4, a5, a6, a7, a8, a9, a10] [a0, a1, a2, a3, a4, a5, a6, some v, a8, a9, a10] 7 v := by
  intro j w hj
  match j, hj with
  | 0, hj => exact Or.inr ⟨by decide, hj, fun q => absurd q (by decide)⟩
  | 1, hj => exact Or.inr ⟨by decide, hj, fun q => absurd q (by decide)⟩
  | 2, hj => exact Or.inr ⟨by decide, hj, fun q => absurd q (by decide)⟩
  | 3, hj => exact Or.inr ⟨by decide, hj, fun q => absurd q (by decide)⟩
  | 4, hj => exact Or.inr ⟨by decide, hj, fun q => absurd q (by decide)⟩
  | 5, hj => exact Or.inr ⟨by decide, hj, fun q => absurd q (by decide)⟩
  | 6, hj => exact Or.inr ⟨by decide, hj, fun _ => by rw [← Option.some.inj hj]; exact h⟩
  | 7, hj => exact Or.inl ⟨rfl, (Option.some.inj (Option.some.inj hj)).symm⟩
  | 8, hj => exact Or.inr ⟨by decide, hj, fun q => absurd q (by decide)⟩
  | 9, hj => exact Or.inr ⟨by decide, hj, fun q => absurd q (by decide)⟩
  | 10, hj => exact Or.inr ⟨by decide, hj, fun q => absurd q (by decide)⟩
  | j + 11, hj => simp at hj
theorem z_so11_8 {a0 a1 a2 a3 a4 a5 a6 a7 a8 a9 a10 : Option z_V} {v : z_V} (h : z_nl a7 = true) : z_stOk [a0, a1, a2, a3, a4, a5, a6, a7, a8, a9, a10] [a0, a1, a2, a3, a4, a5, a6, a7, some v, a9, a10] 8 v := by
  intro j w hj
  match j, hj with
  | 0, hj => exact Or.inr ⟨by decide, hj, fun q => absurd q (by decide)⟩
  | 1, hj => exact Or.inr ⟨by decide, hj, fun q => absurd q (by decide)⟩
  | 2, hj => exact Or.inr ⟨by decide, hj, fun q => absurd q (by decide)⟩
  | 3, hj => exact Or.inr ⟨by decide, hj, fun q => absurd q (by decide)⟩
  | 4, hj => exact Or.inr ⟨by decide, hj, fun q => absurd q (by decide)⟩
  | 5, hj => exact Or.inr ⟨by decide, hj, fun q => absurd q (by decide)⟩
  | 6, hj => exact Or.inr ⟨by decide, hj, fun q => absurd q (by decide)⟩
  | 7, hj => exact Or.inr ⟨by decide, hj, fun _ => by rw [← Option.some.inj hj]; exact h⟩
  | 8, hj => exact Or.inl ⟨rfl, (Option.some.inj (Option.some.inj hj)).symm⟩
  | 9, hj => exact Or.inr ⟨by decide, hj, fun q => absurd q (by decide)⟩
  | 10, hj => exact Or.inr ⟨by decide, hj, fun q => absurd q (by decide)⟩
  | j + 11, hj => simp at hj
theorem z_so11_9 {a0 a1 a2 a3 a4 a5 a6 a7 a8 a9 a10 : Option z_V} {v : z_V} (h : z_nl a8 = true) : z_stOk [a0, a1, a2, a3, a4, a5, a6, a7, a8, a9, a10] [a0, a1, a2, a3, a4, a5, a6, a7, a8, some v, a10] 9 v := by
  intro j w hj
  match j, hj with
  | 0, hj => exact Or.inr ⟨by decide, hj, fun q => absurd q (by decide)⟩
  | 1, hj => exact Or.inr ⟨by decide, hj, fun q => absurd q (by decide)⟩
  | 2, hj => exact Or.inr ⟨by decide, hj, fun q => absurd q (by decide)⟩
  | 3, hj => exact Or.inr ⟨by decide, hj, fun q => absurd q (by decide)⟩
  | 4, hj => exact Or.inr ⟨by decide, hj, fun q => absurd q (by decide)⟩
  | 5, hj => exact Or.inr ⟨by decide, hj, fun q => absurd q (by decide)⟩
  | 6, hj => exact Or.inr ⟨by decide, hj, fun q => absurd q (by decide)⟩
  | 7, hj => exact Or.inr ⟨by decide, hj, fun q => absurd q (by decide)⟩
  | 8, hj => exact Or.inr ⟨by decide, hj, fun _ => by rw [← Option.some.inj hj]; exact h⟩
  | 9, hj => exact Or.inl ⟨rfl, (Option.some.inj (Option.some.inj hj)).symm⟩
  | 10, hj => exact Or.inr ⟨by decide, hj, fun q => absurd q (by decide)⟩
  | j + 11, hj => simp at hj
theorem z_so11_10 {a0 a1 a2 a3 a4 a5 a6 a7 a8 a9 a10 : Option z_V} {v : z_V} (h : z_nl a9 = true) : z_stOk [a0, a1, a2, a3, a4, a5, a6, a7, a8, a9, a10] [a0, a1, a2, a3, a4, a5, a6, a7, a8, a9, some v] 10 v := by
  intro j w hj
  match j, hj with
  | 0, hj => exact Or.inr ⟨by decide, hj, fun q => absurd q (by decide)⟩
  | 1, hj => exact Or.inr ⟨by decide, hj, fun q => absurd q (by decide)⟩
  | 2, hj => exact Or.inr ⟨by decide, hj, fun q => absurd q (by decide)⟩
  | 3, hj => exact Or.inr ⟨by decide, hj, fun q => absurd q (by decide)⟩
  | 4, hj => exact Or.inr ⟨by decide, hj, fun q => absurd q (by decide)⟩
  | 5, hj => exact Or.inr ⟨by decide, hj, fun q => absurd q (by decide)⟩
  | 6, hj => exact Or.inr ⟨by decide, hj, fun q => absurd q (by decide)⟩
  | 7, hj => exact Or.inr ⟨by decide, hj, fun q => absurd q (by decide)⟩
  | 8, hj => exact Or.inr ⟨by decide, hj, fun q => absurd q (by decide)⟩
  | 9, hj => exact Or.inr ⟨by decide, hj, fun _ => by rw [← Option.some.inj hj]; exact h⟩
  | 10, hj => exact Or.inl ⟨rfl, (Option.some.inj (Option.some.inj hj)).symm⟩
  | j + 11, hj => simp at hj
theorem z_so12_5 {a0 a1 a2 a3 a4 a5 a6 a7 a8 a9 a10 a11 : Option z_V} {v : z_V} (h : z_nl a4 = true) : z_stOk [a0, a1, a2, a3, a4, a5, a6, a7, a8, a9, a10, a11] [a0, a1, a2, a3, a4, some v, a6, a7, a8, a9, a10, a11] 5 v := by
  intro j w hj
  match j, hj with
  | 0, hj => exact Or.inr ⟨by decide, hj, fun q => absurd q (by decide)⟩
  | 1, hj => exact Or.inr ⟨by decide, hj, fun q => absurd q (by decide)⟩
  | 2, hj => exact Or.inr ⟨by decide, hj, fun q => absurd q (by decide)⟩
  | 3, hj => exact Or.inr ⟨by decide, hj, fun q => absurd q (by decide)⟩
  | 4, hj => exact Or.inr ⟨by decide, hj, fun _ => by rw [← Option.some.inj hj]; exact h⟩
  | 5, hj => exact Or.inl ⟨rfl, (Option.some.inj (Option.some.inj hj)).symm⟩
  | 6, hj => exact Or.inr ⟨by decide, hj, fun q => absurd q (by decide)⟩
  | 7, hj => exact Or.inr ⟨by decide, hj, fun q => absurd q (by decide)⟩
  | 8, hj => exact Or.inr ⟨by decide, hj, fun q => absurd q (by decide)⟩
  | 9, hj => exact Or.inr ⟨by decide, hj, fun q => absurd q (by decide)⟩
  | 10, hj => exact Or.inr ⟨by decide, hj, fun q => absurd q (by decide)⟩
  | 11, hj => exact Or.inr ⟨by decide, hj, fun q => absurd q (by decide)⟩
  | j + 12, hj => simp at hj
theorem z_so12_6 {a0 a1 a2 a3 a4 a5 a6 a7 a8 a9 a10 a11 : Option z_V} {v : z_V} (h : z_nl a5 = true) : z_stOk [a0, a1, a2, a3, a4, a5, a6, a7, a8, a9, a10, a11] [a0, a1, a2, a3, a4, a5, some v, a7, a8, a9, a10, a11] 6 v := by
  intro j w hj
  match j, hj with
  | 0, hj => exact Or.inr ⟨by decide, hj, fun q => absurd q (by decide)⟩
  | 1, hj => exact Or.inr ⟨by decide, hj, fun q => absurd q (by decide)⟩
  | 2, hj => exact Or.inr ⟨by decide, hj, fun q => absurd q (by decide)⟩
  | 3, hj => exact Or.inr ⟨by decide, hj, fun q => absurd q (by decide)⟩
  | 4, hj => exact Or.inr ⟨by decide, hj, fun q => absurd q (by decide)⟩
  | 5, hj => exact Or.inr ⟨by decide, hj, fun _ => by rw [← Option.some.inj hj]; exact h⟩
  | 6, hj => exact Or.inl ⟨rfl, (Option.some.inj (Option.some.inj hj)).symm⟩
  | 7, hj => exact Or.inr ⟨by decide, hj, fun q => absurd q (by decide)⟩
  | 8, hj => exact Or.inr ⟨by decide, hj, fun q => absurd q (by decide)⟩
  | 9, hj => exact Or.inr ⟨by decide, hj, fun q => absurd q (by decide)⟩
  | 10, hj => exact Or.inr ⟨by decide, hj, fun q => absurd q (by decide)⟩
  | 11, hj => exact Or.inr ⟨by decide, hj, fun q => absurd q (by decide)⟩
  | j + 12, hj => simp at hj
theorem z_so12_7 {a0 a1 a2 a3 a4 a5 a6 a7 a8 a9 a10 a11 : Option z_V} {v : z_V} (h : z_nl a6 = true) : z_stOk [a0, a1, a2, a3, a4, a5, a6, a7, a8, a9, a10, a11] [a0, a1, a2, a3, a4, a5, a6, some v, a8, a9, a10, a11] 7 v := by
  intro j w hj
  match j, hj with
  | 0, hj => exact Or.inr ⟨by decide, hj, fun q => absurd q (by decide)⟩
  | 1, hj => exact Or.inr ⟨by decide, hj, fun q => absurd q (by decide)⟩
  | 2, hj => exact Or.inr ⟨by decide, hj, fun q => absurd q (by decide)⟩
  | 3, hj => exact Or.inr ⟨by decide, hj, fun q => absurd q (by decide)⟩
  | 4, hj => exact Or.inr ⟨by decide, hj, fun q => absurd q (by decide)⟩
  | 5, hj => exact Or.inr ⟨by decide, hj, fun q => absurd q (by decide)⟩
  | 6, hj => exact Or.inr ⟨by decide, hj, fun _ => by rw [← Option.some.inj hj]; exact h⟩
  | 7, hj => exact Or.inl ⟨rfl, (Option.some.inj (Option.some.inj hj)).symm⟩
  | 8, hj => exact Or.inr ⟨by decide, hj, fun q => absurd q (by decide)⟩
  | 9, hj => exact Or.inr ⟨by decide, hj, fun q => absurd q (by decide)⟩
  | 10, hj => exact Or.inr ⟨by decide, hj, fun q => absurd q (by decide)⟩
  | 11, hj => exact Or.inr ⟨by decide, hj, fun q => absurd q (by decide)⟩
  | j + 12, hj => simp at hj
theorem z_so12_8 {a0 a1 a2 a3 a4 a5 a6 a7 a8 a9 a10 a11 : Option z_V} {v : z_V} (h : z_nl a7 = true) : z_stOk [a0, a1, a2, a3, a4, a5, a6, a7, a8, a9, a10, a11] [a0, a1, a2, a3, a4, a5, a6, a7, some v, a9, a10, a11] 8 v := by
  intro j w hj
  match j, hj with
  | 0, hj => exact Or.inr ⟨by decide, hj, fun q => absurd q (by decide)⟩
  | 1, hj => exact Or.inr ⟨by decide, hj, fun q => absurd q (by decide)⟩
  | 2, hj => exact Or.inr ⟨by decide, hj, fun q => absurd q (by decide)⟩
  | 3, hj => exact Or.inr ⟨by decide, hj, fun q => absurd q (by decide)⟩
  | 4, hj => exact Or.inr ⟨by decide, hj, fun q => absurd q (by decide)⟩
  | 5, hj => exact Or.inr ⟨by decide, hj, fun q => absurd q (by decide)⟩
  | 6, hj => exact Or.inr ⟨by decide, hj, fun q => absurd q (by decide)⟩
  | 7, hj => exact Or.inr ⟨by decide, hj, fun _ => by rw [← Option.some.inj hj]; exact h⟩
  | 8, hj => exact Or.inl ⟨rfl, (Option.some.inj (Option.some.inj hj)).symm⟩
  | 9, hj => exact Or.inr ⟨by decide, hj, fun q => absurd q (by decide)⟩
  | 10, hj => exact Or.inr ⟨by decide, hj, fun q => absurd q (by decide)⟩
  | 11, hj => exact Or.inr ⟨by decide, hj, fun q => absurd q (by decide)⟩
  | j + 12, hj => simp at hj
theorem z_so12_9 {a0 a1 a2 a3 a4 a5 a6 a7 a8 a9 a10 a11 : Option z_V} {v : z_V} (h : z_nl a8 = true) : z_stOk [a0, a1, a2, a3, a4, a5, a6, a7, a8, a9, a10, a11] [a0, a1, a2, a3, a4, a5, a6, a7, a8, some v, a10, a11] 9 v := by
  intro j w hj
  match j, hj with
  | 0, hj => exact Or.inr ⟨by decide, hj, fun q => absurd q (by decide)⟩
  | 1, hj => exact Or.inr ⟨by decide, hj, fun q => absurd q (by decide)⟩
  | 2, hj => exact Or.inr ⟨by decide, hj, fun q => absurd q (by decide)⟩
  | 3, hj => exact Or.inr ⟨by decide, hj, fun q => absurd q (by decide)⟩
  | 4, hj => exact Or.inr ⟨by decide, hj, fun q => absurd q (by decide)⟩
  | 5, hj => exact Or.inr ⟨by decide, hj, fun q => absurd q (by decide)⟩
  | 6, hj => exact Or.inr ⟨by decide, hj, fun q => absurd q (by decide)⟩
  | 7, hj => exact Or.inr ⟨by decide, hj, fun q => absurd q (by decide)⟩
  | 8, hj => exact Or.inr ⟨by decide, hj, fun _ => by rw [← Option.some.inj hj]; exact h⟩
  | 9, hj => exact Or.inl ⟨rfl, (Option.some.inj (Option.some.inj hj)).symm⟩
  | 10, hj => exact Or.inr ⟨by decide, hj, fun q => absurd q (by decide)⟩
  | 11, hj => exact Or.inr ⟨by decide, hj, fun q => absurd q (by decide)⟩
  | j + 12, hj => simp at hj
theorem z_so12_10 {a0 a1 a2 a3 a4 a5 a6 a7 a8 a9 a10 a11 : Option z_V} {v : z_V} (h : z_nl a9 = true) : z_stOk [a0, a1, a2, a3, a4, a5, a6, a7, a8, a9, a10, a11] [a0, a1, a2, a3, a4, a5, a6, a7, a8, a9, some v, a11] 10 v := by
  intro j w hj
  match j, hj with
  | 0, hj => exact Or.inr ⟨by decide, hj, fun q => absurd q (by decide)⟩
  | 1, hj => exact Or.inr ⟨by decide, hj, fun q => absurd q (by decide)⟩
  | 2, hj => exact Or.inr ⟨by decide, hj, fun q => absurd q (by decide)⟩
  | 3, hj => exact Or.inr ⟨by decide, hj, fun q => absurd q (by decide)⟩
  | 4, hj => exact Or.inr ⟨by decide, hj, fun q => absurd q (by decide)⟩
  | 5, hj => exact Or.inr ⟨by decide, hj, fun q => absurd q (by decide)⟩
  | 6, hj => exact Or.inr ⟨by decide, hj, fun q => absurd q (by decide)⟩
  | 7, hj => exact Or.inr ⟨by decide, hj, fun q => absurd q (by decide)⟩
  | 8, hj => exact Or.inr ⟨by decide, hj, fun q => absurd q (by decide)⟩
  | 9, hj => exact Or.inr ⟨by decide, hj, fun _ => by rw [← Option.some.inj hj]; exact h⟩
  | 10, hj => exact Or.inl ⟨rfl, (Option.some.inj (Option.some.inj hj)).symm⟩
  | 11, hj => exact Or.inr ⟨by decide, hj, fun q => absurd q (by decide)⟩
  | j + 12, hj => simp at hj
theorem z_so12_11 {a0 a1 a2 a3 a4 a5 a6 a7 a8 a9 a10 a11 : Option z_V} {v : z_V} (h : z_nl a10 = true) : z_stOk [a0, a1, a2, a3, a4, a5, a6, a7, a8, a9, a10, a11] [a0, a1, a2, a3, a4, a5, a6, a7, a8, a9, a10, some v] 11 v := by
  intro j w hj
  match j, hj with
  | 0, hj => exact Or.inr ⟨by decide, hj, fun q => absurd q (by decide)⟩
  | 1, hj => exact Or.inr ⟨by decide, hj, fun q => absurd q (by decide)⟩
  | 2, hj => exact Or.inr ⟨by decide, hj, fun q => absurd q (by decide)⟩
  | 3, hj => exact Or.inr ⟨by decide, hj, fun q => absurd q (by decide)⟩
  | 4, hj => exact Or.inr ⟨by decide, hj, fun q => absurd q (by decide)⟩
  | 5, hj => exact Or.inr ⟨by decide, hj, fun q => absurd q (by decide)⟩
  | 6, hj => exact Or.inr ⟨by decide, hj, fun q => absurd q (by decide)⟩
  | 7, hj => exact Or.inr ⟨by decide, hj, fun q => absurd q (by decide)⟩
  | 8, hj => exact Or.inr ⟨by decide, hj, fun q => absurd q (by decide)⟩
  | 9, hj => exact Or.inr ⟨by decide, hj, fun q => absurd q (by decide)⟩
  | 10, hj => exact Or.inr ⟨by decide, hj, fun _ => by rw [← Option.some.inj hj]; exact h⟩
  | 11, hj => exact Or.inl ⟨rfl, (Option.some.inj (Option.some.inj hj)).symm⟩
  | j + 12, hj => simp at hj
section ZG
variable {α : Type} {Y : z_Lay} {M : z_M} {d : Nat} {mk : α → Option z_V} {pc k i : Nat} {ts : List Nat} {lv : List (Option z_V)} {st : List z_V} {σ : z_Mem} {o : Option (α × z_Mem)}
theorem gfX0_0 {t : Nat} (hd : decode M.2.2.1 pc = .ok (.getfield i, 3)) (hY : Y[k]? = some (.inl (0, ts))) (hw : Cond.fieldLink M.1 i RX0 "texts" "LWallsOfPrisoners$Texts;" ∈ wsL_law) (ht : ts[0]? = some (t + 2)) (kk : z_Go Y M d mk (pc + 3) lv (zR t :: st) σ o) : z_Go Y M d mk pc lv (zR k :: st) σ o := z_getR (C := RX0) (T := TX0) (N := 10) (j := 0) hd hY rfl inlX0 hw rfl (Nat.le_of_ble_eq_true rfl) ht kk
theorem gfX0_1 {t : Nat} (hd : decode M.2.2.1 pc = .ok (.getfield i, 3)) (hY : Y[k]? = some (.inl (0, ts))) (hw : Cond.fieldLink M.1 i RX0 "kind" "[I" ∈ wsL_law) (ht : ts[1]? = some (t + 2)) (kk : z_Go Y M d mk (pc + 3) lv (zR t :: st) σ o) : z_Go Y M d mk pc lv (zR k :: st) σ o := z_getR (C := RX0) (T := TX0) (N := 10) (j := 1) hd hY rfl inlX0 hw rfl (Nat.le_of_ble_eq_true rfl) ht kk
theorem gfX0_2 {t : Nat} (hd : decode M.2.2.1 pc = .ok (.getfield i, 3)) (hY : Y[k]? = some (.inl (0, ts))) (hw : Cond.fieldLink M.1 i RX0 "number" "[I" ∈ wsL_law) (ht : ts[2]? = some (t + 2)) (kk : z_Go Y M d mk (pc + 3) lv (zR t :: st) σ o) : z_Go Y M d mk pc lv (zR k :: st) σ o := z_getR (C := RX0) (T := TX0) (N := 10) (j := 2) hd hY rfl inlX0 hw rfl (Nat.le_of_ble_eq_true rfl) ht kk
theorem gfX0_3 {t : Nat} (hd : decode M.2.2.1 pc = .ok (.getfield i, 3)) (hY : Y[k]? = some (.inl (0, ts))) (hw : Cond.fieldLink M.1 i RX0 "strength" "[I" ∈ wsL_law) (ht : ts[3]? = some (t + 2)) (kk : z_Go Y M d mk (pc + 3) lv (zR t :: st) σ o) : z_Go Y M d mk pc lv (zR k :: st) σ o := z_getR (C := RX0) (T := TX0) (N := 10) (j := 3) hd hY rfl inlX0 hw rfl (Nat.le_of_ble_eq_true rfl) ht kk
theorem gfX0_4 {t : Nat} (hd : decode M.2.2.1 pc = .ok (.getfield i, 3)) (hY : Y[k]? = some (.inl (0, ts))) (hw : Cond.fieldLink M.1 i RX0 "ring" "[I" ∈ wsL_law) (ht : ts[4]? = some (t + 2)) (kk : z_Go Y M d mk (pc + 3) lv (zR t :: st) σ o) : z_Go Y M d mk pc lv (zR k :: st) σ o := z_getR (C := RX0) (T := TX0) (N := 10) (j := 4) hd hY rfl inlX0 hw rfl (Nat.le_of_ble_eq_true rfl) ht kk
theorem gfX0_5 (hd : decode M.2.2.1 pc = .ok (.getfield i, 3)) (hY : Y[k]? = some (.inl (0, ts))) (hw : Cond.fieldLink M.1 i RX0 "men" "I" ∈ wsL_law) (ht : ts[5]? = some 0) (kk : z_Go Y M d mk (pc + 3) lv (zI (σ.1 k 5) :: st) σ o) : z_Go Y M d mk pc lv (zR k :: st) σ o := z_getI (C := RX0) (T := TX0) (N := 10) (j := 5) hd hY rfl inlX0 hw rfl (Nat.le_of_ble_eq_true rfl) ht kk
theorem gfX0_6 (hd : decode M.2.2.1 pc = .ok (.getfield i, 3)) (hY : Y[k]? = some (.inl (0, ts))) (hw : Cond.fieldLink M.1 i RX0 "standing" "I" ∈ wsL_law) (ht : ts[6]? = some 0) (kk : z_Go Y M d mk (pc + 3) lv (zI (σ.1 k 6) :: st) σ o) : z_Go Y M d mk pc lv (zR k :: st) σ o := z_getI (C := RX0) (T := TX0) (N := 10) (j := 6) hd hY rfl inlX0 hw rfl (Nat.le_of_ble_eq_true rfl) ht kk
theorem gfX0_7 (hd : decode M.2.2.1 pc = .ok (.getfield i, 3)) (hY : Y[k]? = some (.inl (0, ts))) (hw : Cond.fieldLink M.1 i RX0 "hour" "I" ∈ wsL_law) (ht : ts[7]? = some 0) (kk : z_Go Y M d mk (pc + 3) lv (zI (σ.1 k 7) :: st) σ o) : z_Go Y M d mk pc lv (zR k :: st) σ o := z_getI (C := RX0) (T := TX0) (N := 10) (j := 7) hd hY rfl inlX0 hw rfl (Nat.le_of_ble_eq_true rfl) ht kk
theorem gfX0_8 (hd : decode M.2.2.1 pc = .ok (.getfield i, 3)) (hY : Y[k]? = some (.inl (0, ts))) (hw : Cond.fieldLink M.1 i RX0 "cold" "I" ∈ wsL_law) (ht : ts[8]? = some 0) (kk : z_Go Y M d mk (pc + 3) lv (zI (σ.1 k 8) :: st) σ o) : z_Go Y M d mk pc lv (zR k :: st) σ o := z_getI (C := RX0) (T := TX0) (N := 10) (j := 8) hd hY rfl inlX0 hw rfl (Nat.le_of_ble_eq_true rfl) ht kk
theorem gfX0_9 (hd : decode M.2.2.1 pc = .ok (.getfield i, 3)) (hY : Y[k]? = some (.inl (0, ts))) (hw : Cond.fieldLink M.1 i RX0 "rule" "I" ∈ wsL_law) (ht : ts[9]? = some 0) (kk : z_Go Y M d mk (pc + 3) lv (zI (σ.1 k 9) :: st) σ o) : z_Go Y M d mk pc lv (zR k :: st) σ o := z_getI (C := RX0) (T := TX0) (N := 10) (j := 9) hd hY rfl inlX0 hw rfl (Nat.le_of_ble_eq_true rfl) ht kk
theorem gfX1_0 {t : Nat} (hd : decode M.2.2.1 pc = .ok (.getfield i, 3)) (hY : Y[k]? = some (.inl (1, ts))) (hw : Cond.fieldLink M.1 i RX1 "hardness" "[I" ∈ wsL_law) (ht : ts[0]? = some (t + 2)) (kk : z_Go Y M d mk (pc + 3) lv (zR t :: st) σ o) : z_Go Y M d mk pc lv (zR k :: st) σ o := z_getR (C := RX1) (T := TX1) (N := 6) (j := 0) hd hY rfl inlX1 hw rfl (Nat.le_of_ble_eq_true rfl) ht kk
theorem gfX1_1 {t : Nat} (hd : decode M.2.2.1 pc = .ok (.getfield i, 3)) (hY : Y[k]? = some (.inl (1, ts))) (hw : Cond.fieldLink M.1 i RX1 "ring" "[I" ∈ wsL_law) (ht : ts[1]? = some (t + 2)) (kk : z_Go Y M d mk (pc + 3) lv (zR t :: st) σ o) : z_Go Y M d mk pc lv (zR k :: st) σ o := z_getR (C := RX1) (T := TX1) (N := 6) (j := 1) hd hY rfl inlX1 hw rfl (Nat.le_of_ble_eq_true rfl) ht kk
theorem gfX1_2 {t : Nat} (hd : decode M.2.2.1 pc = .ok (.getfield i, 3)) (hY : Y[k]? = some (.inl (1, ts))) (hw : Cond.fieldLink M.1 i RX1 "atFirst" "[I" ∈ wsL_law) (ht : ts[2]? = some (t + 2)) (kk : z_Go Y M d mk (pc + 3) lv (zR t :: st) σ o) : z_Go Y M d mk pc lv (zR k :: st) σ o := z_getR (C := RX1) (T := TX1) (N := 6) (j := 2) hd hY rfl inlX1 hw rfl (Nat.le_of_ble_eq_true rfl) ht kk
theorem gfX1_3 {t : Nat} (hd : decode M.2.2.1 pc = .ok (.getfield i, 3)) (hY : Y[k]? = some (.inl (1, ts))) (hw : Cond.fieldLink M.1 i RX1 "best" "[I" ∈ wsL_law) (ht : ts[3]? = some (t + 2)) (kk : z_Go Y M d mk (pc + 3) lv (zR t :: st) σ o) : z_Go Y M d mk pc lv (zR k :: st) σ o := z_getR (C := RX1) (T := TX1) (N := 6) (j := 3) hd hY rfl inlX1 hw rfl (Nat.le_of_ble_eq_true rfl) ht kk
theorem gfX1_4 (hd : decode M.2.2.1 pc = .ok (.getfield i, 3)) (hY : Y[k]? = some (.inl (1, ts))) (hw : Cond.fieldLink M.1 i RX1 "standing" "I" ∈ wsL_law) (ht : ts[4]? = some 0) (kk : z_Go Y M d mk (pc + 3) lv (zI (σ.1 k 4) :: st) σ o) : z_Go Y M d mk pc lv (zR k :: st) σ o := z_getI (C := RX1) (T := TX1) (N := 6) (j := 4) hd hY rfl inlX1 hw rfl (Nat.le_of_ble_eq_true rfl) ht kk
theorem gfX1_5 (hd : decode M.2.2.1 pc = .ok (.getfield i, 3)) (hY : Y[k]? = some (.inl (1, ts))) (hw : Cond.fieldLink M.1 i RX1 "bestHard" "I" ∈ wsL_law) (ht : ts[5]? = some 0) (kk : z_Go Y M d mk (pc + 3) lv (zI (σ.1 k 5) :: st) σ o) : z_Go Y M d mk pc lv (zR k :: st) σ o := z_getI (C := RX1) (T := TX1) (N := 6) (j := 5) hd hY rfl inlX1 hw rfl (Nat.le_of_ble_eq_true rfl) ht kk
theorem gfX2_0 {t : Nat} (hd : decode M.2.2.1 pc = .ok (.getfield i, 3)) (hY : Y[k]? = some (.inl (2, ts))) (hw : Cond.fieldLink M.1 i RX2 "texts" "LWallsOfPrisoners$Texts;" ∈ wsL_law) (ht : ts[0]? = some (t + 2)) (kk : z_Go Y M d mk (pc + 3) lv (zR t :: st) σ o) : z_Go Y M d mk pc lv (zR k :: st) σ o := z_getR (C := RX2) (T := TX2) (N := 7) (j := 0) hd hY rfl inlX2 hw rfl (Nat.le_of_ble_eq_true rfl) ht kk
theorem gfX2_1 {t : Nat} (hd : decode M.2.2.1 pc = .ok (.getfield i, 3)) (hY : Y[k]? = some (.inl (2, ts))) (hw : Cond.fieldLink M.1 i RX2 "tape" "[I" ∈ wsL_law) (ht : ts[1]? = some (t + 2)) (kk : z_Go Y M d mk (pc + 3) lv (zR t :: st) σ o) : z_Go Y M d mk pc lv (zR k :: st) σ o := z_getR (C := RX2) (T := TX2) (N := 7) (j := 1) hd hY rfl inlX2 hw rfl (Nat.le_of_ble_eq_true rfl) ht kk
theorem gfX2_2 (hd : decode M.2.2.1 pc = .ok (.getfield i, 3)) (hY : Y[k]? = some (.inl (2, ts))) (hw : Cond.fieldLink M.1 i RX2 "size" "I" ∈ wsL_law) (ht : ts[2]? = some 0) (kk : z_Go Y M d mk (pc + 3) lv (zI (σ.1 k 2) :: st) σ o) : z_Go Y M d mk pc lv (zR k :: st) σ o := z_getI (C := RX2) (T := TX2) (N := 7) (j := 2) hd hY rfl inlX2 hw rfl (Nat.le_of_ble_eq_true rfl) ht kk
theorem gfX2_3 (hd : decode M.2.2.1 pc = .ok (.getfield i, 3)) (hY : Y[k]? = some (.inl (2, ts))) (hw : Cond.fieldLink M.1 i RX2 "at" "I" ∈ wsL_law) (ht : ts[3]? = some 0) (kk : z_Go Y M d mk (pc + 3) lv (zI (σ.1 k 3) :: st) σ o) : z_Go Y M d mk pc lv (zR k :: st) σ o := z_getI (C := RX2) (T := TX2) (N := 7) (j := 3) hd hY rfl inlX2 hw rfl (Nat.le_of_ble_eq_true rfl) ht kk
theorem gfX2_4 (hd : decode M.2.2.1 pc = .ok (.getfield i, 3)) (hY : Y[k]? = some (.inl (2, ts))) (hw : Cond.fieldLink M.1 i RX2 "start" "I" ∈ wsL_law) (ht : ts[4]? = some 0) (kk : z_Go Y M d mk (pc + 3) lv (zI (σ.1 k 4) :: st) σ o) : z_Go Y M d mk pc lv (zR k :: st) σ o := z_getI (C := RX2) (T := TX2) (N := 7) (j := 4) hd hY rfl inlX2 hw rfl (Nat.le_of_ble_eq_true rfl) ht kk
theorem gfX2_5 (hd : decode M.2.2.1 pc = .ok (.getfield i, 3)) (hY : Y[k]? = some (.inl (2, ts))) (hw : Cond.fieldLink M.1 i RX2 "token" "I" ∈ wsL_law) (ht : ts[5]? = some 0) (kk : z_Go Y M d mk (pc + 3) lv (zI (σ.1 k 5) :: st) σ o) : z_Go Y M d mk pc lv (zR k :: st) σ o := z_getI (C := RX2) (T := TX2) (N := 7) (j := 5) hd hY rfl inlX2 hw rfl (Nat.le_of_ble_eq_true rfl) ht kk
theorem gfX2_6 (hd : decode M.2.2.1 pc = .ok (.getfield i, 3)) (hY : Y[k]? = some (.inl (2, ts))) (hw : Cond.fieldLink M.1 i RX2 "worth" "I" ∈ wsL_law) (ht : ts[6]? = some 0) (kk : z_Go Y M d mk (pc + 3) lv (zI (σ.1 k 6) :: st) σ o) : z_Go Y M d mk pc lv (zR k :: st) σ o := z_getI (C := RX2) (T := TX2) (N := 7) (j := 6) hd hY rfl inlX2 hw rfl (Nat.le_of_ble_eq_true rfl) ht kk
theorem gfX3_0 {t : Nat} (hd : decode M.2.2.1 pc = .ok (.getfield i, 3)) (hY : Y[k]? = some (.inl (3, ts))) (hw : Cond.fieldLink M.1 i RX3 "row" "[I" ∈ wsL_law) (ht : ts[0]? = some (t + 2)) (kk : z_Go Y M d mk (pc + 3) lv (zR t :: st) σ o) : z_Go Y M d mk pc lv (zR k :: st) σ o := z_getR (C := RX3) (T := TX3) (N := 3) (j := 0) hd hY rfl inlX3 hw rfl (Nat.le_of_ble_eq_true rfl) ht kk
theorem gfX3_1 (hd : decode M.2.2.1 pc = .ok (.getfield i, 3)) (hY : Y[k]? = some (.inl (3, ts))) (hw : Cond.fieldLink M.1 i RX3 "sort" "I" ∈ wsL_law) (ht : ts[1]? = some 0) (kk : z_Go Y M d mk (pc + 3) lv (zI (σ.1 k 1) :: st) σ o) : z_Go Y M d mk pc lv (zR k :: st) σ o := z_getI (C := RX3) (T := TX3) (N := 3) (j := 1) hd hY rfl inlX3 hw rfl (Nat.le_of_ble_eq_true rfl) ht kk
theorem gfX3_2 (hd : decode M.2.2.1 pc = .ok (.getfield i, 3)) (hY : Y[k]? = some (.inl (3, ts))) (hw : Cond.fieldLink M.1 i RX3 "size" "I" ∈ wsL_law) (ht : ts[2]? = some 0) (kk : z_Go Y M d mk (pc + 3) lv (zI (σ.1 k 2) :: st) σ o) : z_Go Y M d mk pc lv (zR k :: st) σ o := z_getI (C := RX3) (T := TX3) (N := 3) (j := 2) hd hY rfl inlX3 hw rfl (Nat.le_of_ble_eq_true rfl) ht kk
theorem gfX4_0 {t : Nat} (hd : decode M.2.2.1 pc = .ok (.getfield i, 3)) (hY : Y[k]? = some (.inl (4, ts))) (hw : Cond.fieldLink M.1 i RX4 "codes" "[I" ∈ wsL_law) (ht : ts[0]? = some (t + 2)) (kk : z_Go Y M d mk (pc + 3) lv (zR t :: st) σ o) : z_Go Y M d mk pc lv (zR k :: st) σ o := z_getR (C := RX4) (T := TX4) (N := 5) (j := 0) hd hY rfl inlX4 hw rfl (Nat.le_of_ble_eq_true rfl) ht kk
theorem gfX4_1 {t : Nat} (hd : decode M.2.2.1 pc = .ok (.getfield i, 3)) (hY : Y[k]? = some (.inl (4, ts))) (hw : Cond.fieldLink M.1 i RX4 "ends" "[I" ∈ wsL_law) (ht : ts[1]? = some (t + 2)) (kk : z_Go Y M d mk (pc + 3) lv (zR t :: st) σ o) : z_Go Y M d mk pc lv (zR k :: st) σ o := z_getR (C := RX4) (T := TX4) (N := 5) (j := 1) hd hY rfl inlX4 hw rfl (Nat.le_of_ble_eq_true rfl) ht kk
theorem gfX4_2 {t : Nat} (hd : decode M.2.2.1 pc = .ok (.getfield i, 3)) (hY : Y[k]? = some (.inl (4, ts))) (hw : Cond.fieldLink M.1 i RX4 "stack" "[I" ∈ wsL_law) (ht : ts[2]? = some (t + 2)) (kk : z_Go Y M d mk (pc + 3) lv (zR t :: st) σ o) : z_Go Y M d mk pc lv (zR k :: st) σ o := z_getR (C := RX4) (T := TX4) (N := 5) (j := 2) hd hY rfl inlX4 hw rfl (Nat.le_of_ble_eq_true rfl) ht kk
theorem gfX4_3 (hd : decode M.2.2.1 pc = .ok (.getfield i, 3)) (hY : Y[k]? = some (.inl (4, ts))) (hw : Cond.fieldLink M.1 i RX4 "many" "I" ∈ wsL_law) (ht : ts[3]? = some 0) (kk : z_Go Y M d mk (pc + 3) lv (zI (σ.1 k 3) :: st) σ o) : z_Go Y M d mk pc lv (zR k :: st) σ o := z_getI (C := RX4) (T := TX4) (N := 5) (j := 3) hd hY rfl inlX4 hw rfl (Nat.le_of_ble_eq_true rfl) ht kk
theorem gfX4_4 (hd : decode M.2.2.1 pc = .ok (.getfield i, 3)) (hY : Y[k]? = some (.inl (4, ts))) (hw : Cond.fieldLink M.1 i RX4 "written" "I" ∈ wsL_law) (ht : ts[4]? = some 0) (kk : z_Go Y M d mk (pc + 3) lv (zI (σ.1 k 4) :: st) σ o) : z_Go Y M d mk pc lv (zR k :: st) σ o := z_getI (C := RX4) (T := TX4) (N := 5) (j := 4) hd hY rfl inlX4 hw rfl (Nat.le_of_ble_eq_true rfl) ht kk
theorem gfX5_0 {t : Nat} (hd : decode M.2.2.1 pc = .ok (.getfield i, 3)) (hY : Y[k]? = some (.inl (5, ts))) (hw : Cond.fieldLink M.1 i RX5 "texts" "LWallsOfPrisoners$Texts;" ∈ wsL_law) (ht : ts[0]? = some (t + 2)) (kk : z_Go Y M d mk (pc + 3) lv (zR t :: st) σ o) : z_Go Y M d mk pc lv (zR k :: st) σ o := z_getR (C := RX5) (T := TX5) (N := 8) (j := 0) hd hY rfl inlX5 hw rfl (Nat.le_of_ble_eq_true rfl) ht kk
theorem gfX5_1 {t : Nat} (hd : decode M.2.2.1 pc = .ok (.getfield i, 3)) (hY : Y[k]? = some (.inl (5, ts))) (hw : Cond.fieldLink M.1 i RX5 "reader" "LWallsOfPrisoners$Reader;" ∈ wsL_law) (ht : ts[1]? = some (t + 2)) (kk : z_Go Y M d mk (pc + 3) lv (zR t :: st) σ o) : z_Go Y M d mk pc lv (zR k :: st) σ o := z_getR (C := RX5) (T := TX5) (N := 8) (j := 1) hd hY rfl inlX5 hw rfl (Nat.le_of_ble_eq_true rfl) ht kk
theorem gfX5_2 {t : Nat} (hd : decode M.2.2.1 pc = .ok (.getfield i, 3)) (hY : Y[k]? = some (.inl (5, ts))) (hw : Cond.fieldLink M.1 i RX5 "marsh" "LWallsOfPrisoners$Marsh;" ∈ wsL_law) (ht : ts[2]? = some (t + 2)) (kk : z_Go Y M d mk (pc + 3) lv (zR t :: st) σ o) : z_Go Y M d mk pc lv (zR k :: st) σ o := z_getR (C := RX5) (T := TX5) (N := 8) (j := 2) hd hY rfl inlX5 hw rfl (Nat.le_of_ble_eq_true rfl) ht kk
theorem gfX5_3 {t : Nat} (hd : decode M.2.2.1 pc = .ok (.getfield i, 3)) (hY : Y[k]? = some (.inl (5, ts))) (hw : Cond.fieldLink M.1 i RX5 "thought" "LWallsOfPrisoners$Marsh;" ∈ wsL_law) (ht : ts[3]? = some (t + 2)) (kk : z_Go Y M d mk (pc + 3) lv (zR t :: st) σ o) : z_Go Y M d mk pc lv (zR k :: st) σ o := z_getR (C := RX5) (T := TX5) (N := 8) (j := 3) hd hY rfl inlX5 hw rfl (Nat.le_of_ble_eq_true rfl) ht kk
theorem gfX5_4 {t : Nat} (hd : decode M.2.2.1 pc = .ok (.getfield i, 3)) (hY : Y[k]? = some (.inl (5, ts))) (hw : Cond.fieldLink M.1 i RX5 "kept" "LWallsOfPrisoners$Marsh;" ∈ wsL_law) (ht : ts[4]? = some (t + 2)) (kk : z_Go Y M d mk (pc + 3) lv (zR t :: st) σ o) : z_Go Y M d mk pc lv (zR k :: st) σ o := z_getR (C := RX5) (T := TX5) (N := 8) (j := 4) hd hY rfl inlX5 hw rfl (Nat.le_of_ble_eq_true rfl) ht kk
theorem gfX5_5 {t : Nat} (hd : decode M.2.2.1 pc = .ok (.getfield i, 3)) (hY : Y[k]? = some (.inl (5, ts))) (hw : Cond.fieldLink M.1 i RX5 "orders" "LWallsOfPrisoners$Orders;" ∈ wsL_law) (ht : ts[5]? = some (t + 2)) (kk : z_Go Y M d mk (pc + 3) lv (zR t :: st) σ o) : z_Go Y M d mk pc lv (zR k :: st) σ o := z_getR (C := RX5) (T := TX5) (N := 8) (j := 5) hd hY rfl inlX5 hw rfl (Nat.le_of_ble_eq_true rfl) ht kk
theorem gfX5_6 {t : Nat} (hd : decode M.2.2.1 pc = .ok (.getfield i, 3)) (hY : Y[k]? = some (.inl (5, ts))) (hw : Cond.fieldLink M.1 i RX5 "sheets" "[LWallsOfPrisoners$Sheet;" ∈ wsL_law) (ht : ts[6]? = some (t + 2)) (kk : z_Go Y M d mk (pc + 3) lv (zR t :: st) σ o) : z_Go Y M d mk pc lv (zR k :: st) σ o := z_getR (C := RX5) (T := TX5) (N := 8) (j := 6) hd hY rfl inlX5 hw rfl (Nat.le_of_ble_eq_true rfl) ht kk
theorem gfX5_7 (hd : decode M.2.2.1 pc = .ok (.getfield i, 3)) (hY : Y[k]? = some (.inl (5, ts))) (hw : Cond.fieldLink M.1 i RX5 "isKept" "Z" ∈ wsL_law) (ht : ts[7]? = some 0) (kk : z_Go Y M d mk (pc + 3) lv (zI (σ.1 k 7) :: st) σ o) : z_Go Y M d mk pc lv (zR k :: st) σ o := z_getI (C := RX5) (T := TX5) (N := 8) (j := 7) hd hY rfl inlX5 hw rfl (Nat.le_of_ble_eq_true rfl) ht kk
theorem gfX6_1 {t : Nat} (hd : decode M.2.2.1 pc = .ok (.getfield i, 3)) (hY : Y[k]? = some (.inl (6, ts))) (hw : Cond.fieldLink M.1 i RX6 "texts" "[I" ∈ wsL_law) (ht : ts[1]? = some (t + 2)) (kk : z_Go Y M d mk (pc + 3) lv (zR t :: st) σ o) : z_Go Y M d mk pc lv (zR k :: st) σ o := z_getR (C := RX6) (T := TX6) (N := 44) (j := 1) hd hY rfl inlX6 hw rfl (Nat.le_of_ble_eq_true rfl) ht kk
theorem gfX6_2 {t : Nat} (hd : decode M.2.2.1 pc = .ok (.getfield i, 3)) (hY : Y[k]? = some (.inl (6, ts))) (hw : Cond.fieldLink M.1 i RX6 "textSize" "[I" ∈ wsL_law) (ht : ts[2]? = some (t + 2)) (kk : z_Go Y M d mk (pc + 3) lv (zR t :: st) σ o) : z_Go Y M d mk pc lv (zR k :: st) σ o := z_getR (C := RX6) (T := TX6) (N := 44) (j := 2) hd hY rfl inlX6 hw rfl (Nat.le_of_ble_eq_true rfl) ht kk
theorem gfX6_3 (hd : decode M.2.2.1 pc = .ok (.getfield i, 3)) (hY : Y[k]? = some (.inl (6, ts))) (hw : Cond.fieldLink M.1 i RX6 "textCount" "I" ∈ wsL_law) (ht : ts[3]? = some 0) (kk : z_Go Y M d mk (pc + 3) lv (zI (σ.1 k 3) :: st) σ o) : z_Go Y M d mk pc lv (zR k :: st) σ o := z_getI (C := RX6) (T := TX6) (N := 44) (j := 3) hd hY rfl inlX6 hw rfl (Nat.le_of_ble_eq_true rfl) ht kk
theorem gfX6_4 (hd : decode M.2.2.1 pc = .ok (.getfield i, 3)) (hY : Y[k]? = some (.inl (6, ts))) (hw : Cond.fieldLink M.1 i RX6 "rule" "I" ∈ wsL_law) (ht : ts[4]? = some 0) (kk : z_Go Y M d mk (pc + 3) lv (zI (σ.1 k 4) :: st) σ o) : z_Go Y M d mk pc lv (zR k :: st) σ o := z_getI (C := RX6) (T := TX6) (N := 44) (j := 4) hd hY rfl inlX6 hw rfl (Nat.le_of_ble_eq_true rfl) ht kk
theorem gfX6_5 {t : Nat} (hd : decode M.2.2.1 pc = .ok (.getfield i, 3)) (hY : Y[k]? = some (.inl (6, ts))) (hw : Cond.fieldLink M.1 i RX6 "tape" "[I" ∈ wsL_law) (ht : ts[5]? = some (t + 2)) (kk : z_Go Y M d mk (pc + 3) lv (zR t :: st) σ o) : z_Go Y M d mk pc lv (zR k :: st) σ o := z_getR (C := RX6) (T := TX6) (N := 44) (j := 5) hd hY rfl inlX6 hw rfl (Nat.le_of_ble_eq_true rfl) ht kk
theorem gfX6_6 (hd : decode M.2.2.1 pc = .ok (.getfield i, 3)) (hY : Y[k]? = some (.inl (6, ts))) (hw : Cond.fieldLink M.1 i RX6 "taped" "I" ∈ wsL_law) (ht : ts[6]? = some 0) (kk : z_Go Y M d mk (pc + 3) lv (zI (σ.1 k 6) :: st) σ o) : z_Go Y M d mk pc lv (zR k :: st) σ o := z_getI (C := RX6) (T := TX6) (N := 44) (j := 6) hd hY rfl inlX6 hw rfl (Nat.le_of_ble_eq_true rfl) ht kk
theorem gfX6_7 (hd : decode M.2.2.1 pc = .ok (.getfield i, 3)) (hY : Y[k]? = some (.inl (6, ts))) (hw : Cond.fieldLink M.1 i RX6 "hourNow" "I" ∈ wsL_law) (ht : ts[7]? = some 0) (kk : z_Go Y M d mk (pc + 3) lv (zI (σ.1 k 7) :: st) σ o) : z_Go Y M d mk pc lv (zR k :: st) σ o := z_getI (C := RX6) (T := TX6) (N := 44) (j := 7) hd hY rfl inlX6 hw rfl (Nat.le_of_ble_eq_true rfl) ht kk
theorem gfX6_8 (hd : decode M.2.2.1 pc = .ok (.getfield i, 3)) (hY : Y[k]? = some (.inl (6, ts))) (hw : Cond.fieldLink M.1 i RX6 "cold" "I" ∈ wsL_law) (ht : ts[8]? = some 0) (kk : z_Go Y M d mk (pc + 3) lv (zI (σ.1 k 8) :: st) σ o) : z_Go Y M d mk pc lv (zR k :: st) σ o := z_getI (C := RX6) (T := TX6) (N := 44) (j := 8) hd hY rfl inlX6 hw rfl (Nat.le_of_ble_eq_true rfl) ht kk
theorem gfX6_9 {t : Nat} (hd : decode M.2.2.1 pc = .ok (.getfield i, 3)) (hY : Y[k]? = some (.inl (6, ts))) (hw : Cond.fieldLink M.1 i RX6 "rows" "[I" ∈ wsL_law) (ht : ts[9]? = some (t + 2)) (kk : z_Go Y M d mk (pc + 3) lv (zR t :: st) σ o) : z_Go Y M d mk pc lv (zR k :: st) σ o := z_getR (C := RX6) (T := TX6) (N := 44) (j := 9) hd hY rfl inlX6 hw rfl (Nat.le_of_ble_eq_true rfl) ht kk
theorem gfX6_10 (hd : decode M.2.2.1 pc = .ok (.getfield i, 3)) (hY : Y[k]? = some (.inl (6, ts))) (hw : Cond.fieldLink M.1 i RX6 "men" "I" ∈ wsL_law) (ht : ts[10]? = some 0) (kk : z_Go Y M d mk (pc + 3) lv (zI (σ.1 k 10) :: st) σ o) : z_Go Y M d mk pc lv (zR k :: st) σ o := z_getI (C := RX6) (T := TX6) (N := 44) (j := 10) hd hY rfl inlX6 hw rfl (Nat.le_of_ble_eq_true rfl) ht kk
theorem gfX6_11 {t : Nat} (hd : decode M.2.2.1 pc = .ok (.getfield i, 3)) (hY : Y[k]? = some (.inl (6, ts))) (hw : Cond.fieldLink M.1 i RX6 "ring" "[I" ∈ wsL_law) (ht : ts[11]? = some (t + 2)) (kk : z_Go Y M d mk (pc + 3) lv (zR t :: st) σ o) : z_Go Y M d mk pc lv (zR k :: st) σ o := z_getR (C := RX6) (T := TX6) (N := 44) (j := 11) hd hY rfl inlX6 hw rfl (Nat.le_of_ble_eq_true rfl) ht kk
theorem gfX6_12 (hd : decode M.2.2.1 pc = .ok (.getfield i, 3)) (hY : Y[k]? = some (.inl (6, ts))) (hw : Cond.fieldLink M.1 i RX6 "size" "I" ∈ wsL_law) (ht : ts[12]? = some 0) (kk : z_Go Y M d mk (pc + 3) lv (zI (σ.1 k 12) :: st) σ o) : z_Go Y M d mk pc lv (zR k :: st) σ o := z_getI (C := RX6) (T := TX6) (N := 44) (j := 12) hd hY rfl inlX6 hw rfl (Nat.le_of_ble_eq_true rfl) ht kk
theorem gfX6_13 (hd : decode M.2.2.1 pc = .ok (.getfield i, 3)) (hY : Y[k]? = some (.inl (6, ts))) (hw : Cond.fieldLink M.1 i RX6 "ofStrength" "I" ∈ wsL_law) (ht : ts[13]? = some 0) (kk : z_Go Y M d mk (pc + 3) lv (zI (σ.1 k 13) :: st) σ o) : z_Go Y M d mk pc lv (zR k :: st) σ o := z_getI (C := RX6) (T := TX6) (N := 44) (j := 13) hd hY rfl inlX6 hw rfl (Nat.le_of_ble_eq_true rfl) ht kk
theorem gfX6_14 (hd : decode M.2.2.1 pc = .ok (.getfield i, 3)) (hY : Y[k]? = some (.inl (6, ts))) (hw : Cond.fieldLink M.1 i RX6 "ofNext" "I" ∈ wsL_law) (ht : ts[14]? = some 0) (kk : z_Go Y M d mk (pc + 3) lv (zI (σ.1 k 14) :: st) σ o) : z_Go Y M d mk pc lv (zR k :: st) σ o := z_getI (C := RX6) (T := TX6) (N := 44) (j := 14) hd hY rfl inlX6 hw rfl (Nat.le_of_ble_eq_true rfl) ht kk
theorem gfX6_15 (hd : decode M.2.2.1 pc = .ok (.getfield i, 3)) (hY : Y[k]? = some (.inl (6, ts))) (hw : Cond.fieldLink M.1 i RX6 "ofNumber" "I" ∈ wsL_law) (ht : ts[15]? = some 0) (kk : z_Go Y M d mk (pc + 3) lv (zI (σ.1 k 15) :: st) σ o) : z_Go Y M d mk pc lv (zR k :: st) σ o := z_getI (C := RX6) (T := TX6) (N := 44) (j := 15) hd hY rfl inlX6 hw rfl (Nat.le_of_ble_eq_true rfl) ht kk
theorem gfX6_16 (hd : decode M.2.2.1 pc = .ok (.getfield i, 3)) (hY : Y[k]? = some (.inl (6, ts))) (hw : Cond.fieldLink M.1 i RX6 "ofHour" "I" ∈ wsL_law) (ht : ts[16]? = some 0) (kk : z_Go Y M d mk (pc + 3) lv (zI (σ.1 k 16) :: st) σ o) : z_Go Y M d mk pc lv (zR k :: st) σ o := z_getI (C := RX6) (T := TX6) (N := 44) (j := 16) hd hY rfl inlX6 hw rfl (Nat.le_of_ble_eq_true rfl) ht kk
theorem gfX6_17 (hd : decode M.2.2.1 pc = .ok (.getfield i, 3)) (hY : Y[k]? = some (.inl (6, ts))) (hw : Cond.fieldLink M.1 i RX6 "ofCold" "I" ∈ wsL_law) (ht : ts[17]? = some 0) (kk : z_Go Y M d mk (pc + 3) lv (zI (σ.1 k 17) :: st) σ o) : z_Go Y M d mk pc lv (zR k :: st) σ o := z_getI (C := RX6) (T := TX6) (N := 44) (j := 17) hd hY rfl inlX6 hw rfl (Nat.le_of_ble_eq_true rfl) ht kk
theorem gfX6_18 (hd : decode M.2.2.1 pc = .ok (.getfield i, 3)) (hY : Y[k]? = some (.inl (6, ts))) (hw : Cond.fieldLink M.1 i RX6 "ofMany" "I" ∈ wsL_law) (ht : ts[18]? = some 0) (kk : z_Go Y M d mk (pc + 3) lv (zI (σ.1 k 18) :: st) σ o) : z_Go Y M d mk pc lv (zR k :: st) σ o := z_getI (C := RX6) (T := TX6) (N := 44) (j := 18) hd hY rfl inlX6 hw rfl (Nat.le_of_ble_eq_true rfl) ht kk
theorem gfX6_19 (hd : decode M.2.2.1 pc = .ok (.getfield i, 3)) (hY : Y[k]? = some (.inl (6, ts))) (hw : Cond.fieldLink M.1 i RX6 "from" "I" ∈ wsL_law) (ht : ts[19]? = some 0) (kk : z_Go Y M d mk (pc + 3) lv (zI (σ.1 k 19) :: st) σ o) : z_Go Y M d mk pc lv (zR k :: st) σ o := z_getI (C := RX6) (T := TX6) (N := 44) (j := 19) hd hY rfl inlX6 hw rfl (Nat.le_of_ble_eq_true rfl) ht kk
theorem gfX6_20 (hd : decode M.2.2.1 pc = .ok (.getfield i, 3)) (hY : Y[k]? = some (.inl (6, ts))) (hw : Cond.fieldLink M.1 i RX6 "textEnd" "I" ∈ wsL_law) (ht : ts[20]? = some 0) (kk : z_Go Y M d mk (pc + 3) lv (zI (σ.1 k 20) :: st) σ o) : z_Go Y M d mk pc lv (zR k :: st) σ o := z_getI (C := RX6) (T := TX6) (N := 44) (j := 20) hd hY rfl inlX6 hw rfl (Nat.le_of_ble_eq_true rfl) ht kk
theorem gfX6_21 (hd : decode M.2.2.1 pc = .ok (.getfield i, 3)) (hY : Y[k]? = some (.inl (6, ts))) (hw : Cond.fieldLink M.1 i RX6 "here" "I" ∈ wsL_law) (ht : ts[21]? = some 0) (kk : z_Go Y M d mk (pc + 3) lv (zI (σ.1 k 21) :: st) σ o) : z_Go Y M d mk pc lv (zR k :: st) σ o := z_getI (C := RX6) (T := TX6) (N := 44) (j := 21) hd hY rfl inlX6 hw rfl (Nat.le_of_ble_eq_true rfl) ht kk
theorem gfX6_22 (hd : decode M.2.2.1 pc = .ok (.getfield i, 3)) (hY : Y[k]? = some (.inl (6, ts))) (hw : Cond.fieldLink M.1 i RX6 "token" "I" ∈ wsL_law) (ht : ts[22]? = some 0) (kk : z_Go Y M d mk (pc + 3) lv (zI (σ.1 k 22) :: st) σ o) : z_Go Y M d mk pc lv (zR k :: st) σ o := z_getI (C := RX6) (T := TX6) (N := 44) (j := 22) hd hY rfl inlX6 hw rfl (Nat.le_of_ble_eq_true rfl) ht kk
theorem gfX6_23 (hd : decode M.2.2.1 pc = .ok (.getfield i, 3)) (hY : Y[k]? = some (.inl (6, ts))) (hw : Cond.fieldLink M.1 i RX6 "tokenAt" "I" ∈ wsL_law) (ht : ts[23]? = some 0) (kk : z_Go Y M d mk (pc + 3) lv (zI (σ.1 k 23) :: st) σ o) : z_Go Y M d mk pc lv (zR k :: st) σ o := z_getI (C := RX6) (T := TX6) (N := 44) (j := 23) hd hY rfl inlX6 hw rfl (Nat.le_of_ble_eq_true rfl) ht kk
theorem gfX6_24 (hd : decode M.2.2.1 pc = .ok (.getfield i, 3)) (hY : Y[k]? = some (.inl (6, ts))) (hw : Cond.fieldLink M.1 i RX6 "tokenWorth" "J" ∈ wsL_law) (ht : ts[24]? = some 1) (kk : z_Go Y M d mk (pc + 3) lv (zL (σ.2 k 24) :: st) σ o) : z_Go Y M d mk pc lv (zR k :: st) σ o := z_getL (C := RX6) (T := TX6) (N := 44) (j := 24) hd hY rfl inlX6 hw rfl (Nat.le_of_ble_eq_true rfl) ht kk
theorem gfX6_25 (hd : decode M.2.2.1 pc = .ok (.getfield i, 3)) (hY : Y[k]? = some (.inl (6, ts))) (hw : Cond.fieldLink M.1 i RX6 "open" "I" ∈ wsL_law) (ht : ts[25]? = some 0) (kk : z_Go Y M d mk (pc + 3) lv (zI (σ.1 k 25) :: st) σ o) : z_Go Y M d mk pc lv (zR k :: st) σ o := z_getI (C := RX6) (T := TX6) (N := 44) (j := 25) hd hY rfl inlX6 hw rfl (Nat.le_of_ble_eq_true rfl) ht kk
theorem gfX6_26 (hd : decode M.2.2.1 pc = .ok (.getfield i, 3)) (hY : Y[k]? = some (.inl (6, ts))) (hw : Cond.fieldLink M.1 i RX6 "bad" "Z" ∈ wsL_law) (ht : ts[26]? = some 0) (kk : z_Go Y M d mk (pc + 3) lv (zI (σ.1 k 26) :: st) σ o) : z_Go Y M d mk pc lv (zR k :: st) σ o := z_getI (C := RX6) (T := TX6) (N := 44) (j := 26) hd hY rfl inlX6 hw rfl (Nat.le_of_ble_eq_true rfl) ht kk
theorem gfX6_27 (hd : decode M.2.2.1 pc = .ok (.getfield i, 3)) (hY : Y[k]? = some (.inl (6, ts))) (hw : Cond.fieldLink M.1 i RX6 "fault" "I" ∈ wsL_law) (ht : ts[27]? = some 0) (kk : z_Go Y M d mk (pc + 3) lv (zI (σ.1 k 27) :: st) σ o) : z_Go Y M d mk pc lv (zR k :: st) σ o := z_getI (C := RX6) (T := TX6) (N := 44) (j := 27) hd hY rfl inlX6 hw rfl (Nat.le_of_ble_eq_true rfl) ht kk
theorem gfX6_28 {t : Nat} (hd : decode M.2.2.1 pc = .ok (.getfield i, 3)) (hY : Y[k]? = some (.inl (6, ts))) (hw : Cond.fieldLink M.1 i RX6 "spent" "[I" ∈ wsL_law) (ht : ts[28]? = some (t + 2)) (kk : z_Go Y M d mk (pc + 3) lv (zR t :: st) σ o) : z_Go Y M d mk pc lv (zR k :: st) σ o := z_getR (C := RX6) (T := TX6) (N := 44) (j := 28) hd hY rfl inlX6 hw rfl (Nat.le_of_ble_eq_true rfl) ht kk
theorem gfX6_29 {t : Nat} (hd : decode M.2.2.1 pc = .ok (.getfield i, 3)) (hY : Y[k]? = some (.inl (6, ts))) (hw : Cond.fieldLink M.1 i RX6 "was" "[I" ∈ wsL_law) (ht : ts[29]? = some (t + 2)) (kk : z_Go Y M d mk (pc + 3) lv (zR t :: st) σ o) : z_Go Y M d mk pc lv (zR k :: st) σ o := z_getR (C := RX6) (T := TX6) (N := 44) (j := 29) hd hY rfl inlX6 hw rfl (Nat.le_of_ble_eq_true rfl) ht kk
theorem gfX6_30 {t : Nat} (hd : decode M.2.2.1 pc = .ok (.getfield i, 3)) (hY : Y[k]? = some (.inl (6, ts))) (hw : Cond.fieldLink M.1 i RX6 "ringWas" "[I" ∈ wsL_law) (ht : ts[30]? = some (t + 2)) (kk : z_Go Y M d mk (pc + 3) lv (zR t :: st) σ o) : z_Go Y M d mk pc lv (zR k :: st) σ o := z_getR (C := RX6) (T := TX6) (N := 44) (j := 30) hd hY rfl inlX6 hw rfl (Nat.le_of_ble_eq_true rfl) ht kk
theorem gfX6_31 (hd : decode M.2.2.1 pc = .ok (.getfield i, 3)) (hY : Y[k]? = some (.inl (6, ts))) (hw : Cond.fieldLink M.1 i RX6 "bestRow" "I" ∈ wsL_law) (ht : ts[31]? = some 0) (kk : z_Go Y M d mk (pc + 3) lv (zI (σ.1 k 31) :: st) σ o) : z_Go Y M d mk pc lv (zR k :: st) σ o := z_getI (C := RX6) (T := TX6) (N := 44) (j := 31) hd hY rfl inlX6 hw rfl (Nat.le_of_ble_eq_true rfl) ht kk
theorem gfX6_32 (hd : decode M.2.2.1 pc = .ok (.getfield i, 3)) (hY : Y[k]? = some (.inl (6, ts))) (hw : Cond.fieldLink M.1 i RX6 "bestHard" "I" ∈ wsL_law) (ht : ts[32]? = some 0) (kk : z_Go Y M d mk (pc + 3) lv (zI (σ.1 k 32) :: st) σ o) : z_Go Y M d mk pc lv (zR k :: st) σ o := z_getI (C := RX6) (T := TX6) (N := 44) (j := 32) hd hY rfl inlX6 hw rfl (Nat.le_of_ble_eq_true rfl) ht kk
theorem gfX6_33 {t : Nat} (hd : decode M.2.2.1 pc = .ok (.getfield i, 3)) (hY : Y[k]? = some (.inl (6, ts))) (hw : Cond.fieldLink M.1 i RX6 "rowsKept" "[I" ∈ wsL_law) (ht : ts[33]? = some (t + 2)) (kk : z_Go Y M d mk (pc + 3) lv (zR t :: st) σ o) : z_Go Y M d mk pc lv (zR k :: st) σ o := z_getR (C := RX6) (T := TX6) (N := 44) (j := 33) hd hY rfl inlX6 hw rfl (Nat.le_of_ble_eq_true rfl) ht kk
theorem gfX6_34 {t : Nat} (hd : decode M.2.2.1 pc = .ok (.getfield i, 3)) (hY : Y[k]? = some (.inl (6, ts))) (hw : Cond.fieldLink M.1 i RX6 "ringKept" "[I" ∈ wsL_law) (ht : ts[34]? = some (t + 2)) (kk : z_Go Y M d mk (pc + 3) lv (zR t :: st) σ o) : z_Go Y M d mk pc lv (zR k :: st) σ o := z_getR (C := RX6) (T := TX6) (N := 44) (j := 34) hd hY rfl inlX6 hw rfl (Nat.le_of_ble_eq_true rfl) ht kk
theorem gfX6_35 (hd : decode M.2.2.1 pc = .ok (.getfield i, 3)) (hY : Y[k]? = some (.inl (6, ts))) (hw : Cond.fieldLink M.1 i RX6 "menKept" "I" ∈ wsL_law) (ht : ts[35]? = some 0) (kk : z_Go Y M d mk (pc + 3) lv (zI (σ.1 k 35) :: st) σ o) : z_Go Y M d mk pc lv (zR k :: st) σ o := z_getI (C := RX6) (T := TX6) (N := 44) (j := 35) hd hY rfl inlX6 hw rfl (Nat.le_of_ble_eq_true rfl) ht kk
theorem gfX6_36 (hd : decode M.2.2.1 pc = .ok (.getfield i, 3)) (hY : Y[k]? = some (.inl (6, ts))) (hw : Cond.fieldLink M.1 i RX6 "sizeKept" "I" ∈ wsL_law) (ht : ts[36]? = some 0) (kk : z_Go Y M d mk (pc + 3) lv (zI (σ.1 k 36) :: st) σ o) : z_Go Y M d mk pc lv (zR k :: st) σ o := z_getI (C := RX6) (T := TX6) (N := 44) (j := 36) hd hY rfl inlX6 hw rfl (Nat.le_of_ble_eq_true rfl) ht kk
theorem gfX6_37 (hd : decode M.2.2.1 pc = .ok (.getfield i, 3)) (hY : Y[k]? = some (.inl (6, ts))) (hw : Cond.fieldLink M.1 i RX6 "hourKept" "I" ∈ wsL_law) (ht : ts[37]? = some 0) (kk : z_Go Y M d mk (pc + 3) lv (zI (σ.1 k 37) :: st) σ o) : z_Go Y M d mk pc lv (zR k :: st) σ o := z_getI (C := RX6) (T := TX6) (N := 44) (j := 37) hd hY rfl inlX6 hw rfl (Nat.le_of_ble_eq_true rfl) ht kk
theorem gfX6_38 (hd : decode M.2.2.1 pc = .ok (.getfield i, 3)) (hY : Y[k]? = some (.inl (6, ts))) (hw : Cond.fieldLink M.1 i RX6 "coldKept" "I" ∈ wsL_law) (ht : ts[38]? = some 0) (kk : z_Go Y M d mk (pc + 3) lv (zI (σ.1 k 38) :: st) σ o) : z_Go Y M d mk pc lv (zR k :: st) σ o := z_getI (C := RX6) (T := TX6) (N := 44) (j := 38) hd hY rfl inlX6 hw rfl (Nat.le_of_ble_eq_true rfl) ht kk
theorem gfX6_39 (hd : decode M.2.2.1 pc = .ok (.getfield i, 3)) (hY : Y[k]? = some (.inl (6, ts))) (hw : Cond.fieldLink M.1 i RX6 "ruleKept" "I" ∈ wsL_law) (ht : ts[39]? = some 0) (kk : z_Go Y M d mk (pc + 3) lv (zI (σ.1 k 39) :: st) σ o) : z_Go Y M d mk pc lv (zR k :: st) σ o := z_getI (C := RX6) (T := TX6) (N := 44) (j := 39) hd hY rfl inlX6 hw rfl (Nat.le_of_ble_eq_true rfl) ht kk
theorem gfX6_40 {t : Nat} (hd : decode M.2.2.1 pc = .ok (.getfield i, 3)) (hY : Y[k]? = some (.inl (6, ts))) (hw : Cond.fieldLink M.1 i RX6 "isThere" "[Z" ∈ wsL_law) (ht : ts[40]? = some (t + 2)) (kk : z_Go Y M d mk (pc + 3) lv (zR t :: st) σ o) : z_Go Y M d mk pc lv (zR k :: st) σ o := z_getR (C := RX6) (T := TX6) (N := 44) (j := 40) hd hY rfl inlX6 hw rfl (Nat.le_of_ble_eq_true rfl) ht kk
theorem gfX6_41 {t : Nat} (hd : decode M.2.2.1 pc = .ok (.getfield i, 3)) (hY : Y[k]? = some (.inl (6, ts))) (hw : Cond.fieldLink M.1 i RX6 "sorts" "[I" ∈ wsL_law) (ht : ts[41]? = some (t + 2)) (kk : z_Go Y M d mk (pc + 3) lv (zR t :: st) σ o) : z_Go Y M d mk pc lv (zR k :: st) σ o := z_getR (C := RX6) (T := TX6) (N := 44) (j := 41) hd hY rfl inlX6 hw rfl (Nat.le_of_ble_eq_true rfl) ht kk
theorem gfX6_42 {t : Nat} (hd : decode M.2.2.1 pc = .ok (.getfield i, 3)) (hY : Y[k]? = some (.inl (6, ts))) (hw : Cond.fieldLink M.1 i RX6 "sheetSize" "[I" ∈ wsL_law) (ht : ts[42]? = some (t + 2)) (kk : z_Go Y M d mk (pc + 3) lv (zR t :: st) σ o) : z_Go Y M d mk pc lv (zR k :: st) σ o := z_getR (C := RX6) (T := TX6) (N := 44) (j := 42) hd hY rfl inlX6 hw rfl (Nat.le_of_ble_eq_true rfl) ht kk
theorem gfX6_43 {t : Nat} (hd : decode M.2.2.1 pc = .ok (.getfield i, 3)) (hY : Y[k]? = some (.inl (6, ts))) (hw : Cond.fieldLink M.1 i RX6 "items" "[I" ∈ wsL_law) (ht : ts[43]? = some (t + 2)) (kk : z_Go Y M d mk (pc + 3) lv (zR t :: st) σ o) : z_Go Y M d mk pc lv (zR k :: st) σ o := z_getR (C := RX6) (T := TX6) (N := 44) (j := 43) hd hY rfl inlX6 hw rfl (Nat.le_of_ble_eq_true rfl) ht kk
theorem pfX0_5 {x : Int32} (hd : decode M.2.2.1 pc = .ok (.putfield i, 3)) (hY : Y[k]? = some (.inl (0, ts))) (hw : Cond.fieldLink M.1 i RX0 "men" "I" ∈ wsL_law) (ht : ts[5]? = some 0) (kk : z_Go Y M d mk (pc + 3) lv st (z_pt σ k 5 x) o) : z_Go Y M d mk pc lv (zI x :: zR k :: st) σ o := z_putI (C := RX0) (T := TX0) (N := 10) (j := 5) (ty := .int) hd hY rfl inlX0 tyX0_ok nmX0 hw rfl (Nat.le_of_ble_eq_true rfl) rfl rfl rfl rfl ht kk
theorem pfX0_6 {x : Int32} (hd : decode M.2.2.1 pc = .ok (.putfield i, 3)) (hY : Y[k]? = some (.inl (0, ts))) (hw : Cond.fieldLink M.1 i RX0 "standing" "I" ∈ wsL_law) (ht : ts[6]? = some 0) (kk : z_Go Y M d mk (pc + 3) lv st (z_pt σ k 6 x) o) : z_Go Y M d mk pc lv (zI x :: zR k :: st) σ o := z_putI (C := RX0) (T := TX0) (N := 10) (j := 6) (ty := .int) hd hY rfl inlX0 tyX0_ok nmX0 hw rfl (Nat.le_of_ble_eq_true rfl) rfl rfl rfl rfl ht kk
theorem pfX0_7 {x : Int32} (hd : decode M.2.2.1 pc = .ok (.putfield i, 3)) (hY : Y[k]? = some (.inl (0, ts))) (hw : Cond.fieldLink M.1 i RX0 "hour" "I" ∈ wsL_law) (ht : ts[7]? = some 0) (kk : z_Go Y M d mk (pc + 3) lv st (z_pt σ k 7 x) o) : z_Go Y M d mk pc lv (zI x :: zR k :: st) σ o := z_putI (C := RX0) (T := TX0) (N := 10) (j := 7) (ty := .int) hd hY rfl inlX0 tyX0_ok nmX0 hw rfl (Nat.le_of_ble_eq_true rfl) rfl rfl rfl rfl ht kk
theorem pfX0_8 {x : Int32} (hd : decode M.2.2.1 pc = .ok (.putfield i, 3)) (hY : Y[k]? = some (.inl (0, ts))) (hw : Cond.fieldLink M.1 i RX0 "cold" "I" ∈ wsL_law) (ht : ts[8]? = some 0) (kk : z_Go Y M d mk (pc + 3) lv st (z_pt σ k 8 x) o) : z_Go Y M d mk pc lv (zI x :: zR k :: st) σ o := z_putI (C := RX0) (T := TX0) (N := 10) (j := 8) (ty := .int) hd hY rfl inlX0 tyX0_ok nmX0 hw rfl (Nat.le_of_ble_eq_true rfl) rfl rfl rfl rfl ht kk
theorem pfX0_9 {x : Int32} (hd : decode M.2.2.1 pc = .ok (.putfield i, 3)) (hY : Y[k]? = some (.inl (0, ts))) (hw : Cond.fieldLink M.1 i RX0 "rule" "I" ∈ wsL_law) (ht : ts[9]? = some 0) (kk : z_Go Y M d mk (pc + 3) lv st (z_pt σ k 9 x) o) : z_Go Y M d mk pc lv (zI x :: zR k :: st) σ o := z_putI (C := RX0) (T := TX0) (N := 10) (j := 9) (ty := .int) hd hY rfl inlX0 tyX0_ok nmX0 hw rfl (Nat.le_of_ble_eq_true rfl) rfl rfl rfl rfl ht kk
theorem pfX1_4 {x : Int32} (hd : decode M.2.2.1 pc = .ok (.putfield i, 3)) (hY : Y[k]? = some (.inl (1, ts))) (hw : Cond.fieldLink M.1 i RX1 "standing" "I" ∈ wsL_law) (ht : ts[4]? = some 0) (kk : z_Go Y M d mk (pc + 3) lv st (z_pt σ k 4 x) o) : z_Go Y M d mk pc lv (zI x :: zR k :: st) σ o := z_putI (C := RX1) (T := TX1) (N := 6) (j := 4) (ty := .int) hd hY rfl inlX1 tyX1_ok nmX1 hw rfl (Nat.le_of_ble_eq_true rfl) rfl rfl rfl rfl ht kk
theorem pfX1_5 {x : Int32} (hd : decode M.2.2.1 pc = .ok (.putfield i, 3)) (hY : Y[k]? = some (.inl (1, ts))) (hw : Cond.fieldLink M.1 i RX1 "bestHard" "I" ∈ wsL_law) (ht : ts[5]? = some 0) (kk : z_Go Y M d mk (pc + 3) lv st (z_pt σ k 5 x) o) : z_Go Y M d mk pc lv (zI x :: zR k :: st) σ o := z_putI (C := RX1) (T := TX1) (N := 6) (j := 5) (ty := .int) hd hY rfl inlX1 tyX1_ok nmX1 hw rfl (Nat.le_of_ble_eq_true rfl) rfl rfl rfl rfl ht kk
theorem pfX2_2 {x : Int32} (hd : decode M.2.2.1 pc = .ok (.putfield i, 3)) (hY : Y[k]? = some (.inl (2, ts))) (hw : Cond.fieldLink M.1 i RX2 "size" "I" ∈ wsL_law) (ht : ts[2]? = some 0) (kk : z_Go Y M d mk (pc + 3) lv st (z_pt σ k 2 x) o) : z_Go Y M d mk pc lv (zI x :: zR k :: st) σ o := z_putI (C := RX2) (T := TX2) (N := 7) (j := 2) (ty := .int) hd hY rfl inlX2 tyX2_ok nmX2 hw rfl (Nat.le_of_ble_eq_true rfl) rfl rfl rfl rfl ht kk
theorem pfX2_3 {x : Int32} (hd : decode M.2.2.1 pc = .ok (.putfield i, 3)) (hY : Y[k]? = some (.inl (2, ts))) (hw : Cond.fieldLink M.1 i RX2 "at" "I" ∈ wsL_law) (ht : ts[3]? = some 0) (kk : z_Go Y M d mk (pc + 3) lv st (z_pt σ k 3 x) o) : z_Go Y M d mk pc lv (zI x :: zR k :: st) σ o := z_putI (C := RX2) (T := TX2) (N := 7) (j := 3) (ty := .int) hd hY rfl inlX2 tyX2_ok nmX2 hw rfl (Nat.le_of_ble_eq_true rfl) rfl rfl rfl rfl ht kk
theorem pfX2_4 {x : Int32} (hd : decode M.2.2.1 pc = .ok (.putfield i, 3)) (hY : Y[k]? = some (.inl (2, ts))) (hw : Cond.fieldLink M.1 i RX2 "start" "I" ∈ wsL_law) (ht : ts[4]? = some 0) (kk : z_Go Y M d mk (pc + 3) lv st (z_pt σ k 4 x) o) : z_Go Y M d mk pc lv (zI x :: zR k :: st) σ o := z_putI (C := RX2) (T := TX2) (N := 7) (j := 4) (ty := .int) hd hY rfl inlX2 tyX2_ok nmX2 hw rfl (Nat.le_of_ble_eq_true rfl) rfl rfl rfl rfl ht kk
theorem pfX2_5 {x : Int32} (hd : decode M.2.2.1 pc = .ok (.putfield i, 3)) (hY : Y[k]? = some (.inl (2, ts))) (hw : Cond.fieldLink M.1 i RX2 "token" "I" ∈ wsL_law) (ht : ts[5]? = some 0) (kk : z_Go Y M d mk (pc + 3) lv st (z_pt σ k 5 x) o) : z_Go Y M d mk pc lv (zI x :: zR k :: st) σ o := z_putI (C := RX2) (T := TX2) (N := 7) (j := 5) (ty := .int) hd hY rfl inlX2 tyX2_ok nmX2 hw rfl (Nat.le_of_ble_eq_true rfl) rfl rfl rfl rfl ht kk
theorem pfX2_6 {x : Int32} (hd : decode M.2.2.1 pc = .ok (.putfield i, 3)) (hY : Y[k]? = some (.inl (2, ts))) (hw : Cond.fieldLink M.1 i RX2 "worth" "I" ∈ wsL_law) (ht : ts[6]? = some 0) (kk : z_Go Y M d mk (pc + 3) lv st (z_pt σ k 6 x) o) : z_Go Y M d mk pc lv (zI x :: zR k :: st) σ o := z_putI (C := RX2) (T := TX2) (N := 7) (j := 6) (ty := .int) hd hY rfl inlX2 tyX2_ok nmX2 hw rfl (Nat.le_of_ble_eq_true rfl) rfl rfl rfl rfl ht kk
theorem pfX3_1 {x : Int32} (hd : decode M.2.2.1 pc = .ok (.putfield i, 3)) (hY : Y[k]? = some (.inl (3, ts))) (hw : Cond.fieldLink M.1 i RX3 "sort" "I" ∈ wsL_law) (ht : ts[1]? = some 0) (kk : z_Go Y M d mk (pc + 3) lv st (z_pt σ k 1 x) o) : z_Go Y M d mk pc lv (zI x :: zR k :: st) σ o := z_putI (C := RX3) (T := TX3) (N := 3) (j := 1) (ty := .int) hd hY rfl inlX3 tyX3_ok nmX3 hw rfl (Nat.le_of_ble_eq_true rfl) rfl rfl rfl rfl ht kk
theorem pfX3_2 {x : Int32} (hd : decode M.2.2.1 pc = .ok (.putfield i, 3)) (hY : Y[k]? = some (.inl (3, ts))) (hw : Cond.fieldLink M.1 i RX3 "size" "I" ∈ wsL_law) (ht : ts[2]? = some 0) (kk : z_Go Y M d mk (pc + 3) lv st (z_pt σ k 2 x) o) : z_Go Y M d mk pc lv (zI x :: zR k :: st) σ o := z_putI (C := RX3) (T := TX3) (N := 3) (j := 2) (ty := .int) hd hY rfl inlX3 tyX3_ok nmX3 hw rfl (Nat.le_of_ble_eq_true rfl) rfl rfl rfl rfl ht kk
theorem pfX4_3 {x : Int32} (hd : decode M.2.2.1 pc = .ok (.putfield i, 3)) (hY : Y[k]? = some (.inl (4, ts))) (hw : Cond.fieldLink M.1 i RX4 "many" "I" ∈ wsL_law) (ht : ts[3]? = some 0) (kk : z_Go Y M d mk (pc + 3) lv st (z_pt σ k 3 x) o) : z_Go Y M d mk pc lv (zI x :: zR k :: st) σ o := z_putI (C := RX4) (T := TX4) (N := 5) (j := 3) (ty := .int) hd hY rfl inlX4 tyX4_ok nmX4 hw rfl (Nat.le_of_ble_eq_true rfl) rfl rfl rfl rfl ht kk
theorem pfX4_4 {x : Int32} (hd : decode M.2.2.1 pc = .ok (.putfield i, 3)) (hY : Y[k]? = some (.inl (4, ts))) (hw : Cond.fieldLink M.1 i RX4 "written" "I" ∈ wsL_law) (ht : ts[4]? = some 0) (kk : z_Go Y M d mk (pc + 3) lv st (z_pt σ k 4 x) o) : z_Go Y M d mk pc lv (zI x :: zR k :: st) σ o := z_putI (C := RX4) (T := TX4) (N := 5) (j := 4) (ty := .int) hd hY rfl inlX4 tyX4_ok nmX4 hw rfl (Nat.le_of_ble_eq_true rfl) rfl rfl rfl rfl ht kk
theorem pfX5_7 {x : Int32} (hd : decode M.2.2.1 pc = .ok (.putfield i, 3)) (hY : Y[k]? = some (.inl (5, ts))) (hw : Cond.fieldLink M.1 i RX5 "isKept" "Z" ∈ wsL_law) (h1 : narrow .boolean (.int x) = .int x) (h2 : fits .boolean (.int x) = true) (ht : ts[7]? = some 0) (kk : z_Go Y M d mk (pc + 3) lv st (z_pt σ k 7 x) o) : z_Go Y M d mk pc lv (zI x :: zR k :: st) σ o := z_putI (C := RX5) (T := TX5) (N := 8) (j := 7) (ty := .boolean) hd hY rfl inlX5 tyX5_ok nmX5 hw rfl (Nat.le_of_ble_eq_true rfl) rfl rfl h1 h2 ht kk
theorem pfX6_3 {x : Int32} (hd : decode M.2.2.1 pc = .ok (.putfield i, 3)) (hY : Y[k]? = some (.inl (6, ts))) (hw : Cond.fieldLink M.1 i RX6 "textCount" "I" ∈ wsL_law) (ht : ts[3]? = some 0) (kk : z_Go Y M d mk (pc + 3) lv st (z_pt σ k 3 x) o) : z_Go Y M d mk pc lv (zI x :: zR k :: st) σ o := z_putI (C := RX6) (T := TX6) (N := 44) (j := 3) (ty := .int) hd hY rfl inlX6 tyX6_ok nmX6 hw rfl (Nat.le_of_ble_eq_true rfl) rfl rfl rfl rfl ht kk
theorem pfX6_4 {x : Int32} (hd : decode M.2.2.1 pc = .ok (.putfield i, 3)) (hY : Y[k]? = some (.inl (6, ts))) (hw : Cond.fieldLink M.1 i RX6 "rule" "I" ∈ wsL_law) (ht : ts[4]? = some 0) (kk : z_Go Y M d mk (pc + 3) lv st (z_pt σ k 4 x) o) : z_Go Y M d mk pc lv (zI x :: zR k :: st) σ o := z_putI (C := RX6) (T := TX6) (N := 44) (j := 4) (ty := .int) hd hY rfl inlX6 tyX6_ok nmX6 hw rfl (Nat.le_of_ble_eq_true rfl) rfl rfl rfl rfl ht kk
theorem pfX6_6 {x : Int32} (hd : decode M.2.2.1 pc = .ok (.putfield i, 3)) (hY : Y[k]? = some (.inl (6, ts))) (hw : Cond.fieldLink M.1 i RX6 "taped" "I" ∈ wsL_law) (ht : ts[6]? = some 0) (kk : z_Go Y M d mk (pc + 3) lv st (z_pt σ k 6 x) o) : z_Go Y M d mk pc lv (zI x :: zR k :: st) σ o := z_putI (C := RX6) (T := TX6) (N := 44) (j := 6) (ty := .int) hd hY rfl inlX6 tyX6_ok nmX6 hw rfl (Nat.le_of_ble_eq_true rfl) rfl rfl rfl rfl ht kk
theorem pfX6_7 {x : Int32} (hd : decode M.2.2.1 pc = .ok (.putfield i, 3)) (hY : Y[k]? = some (.inl (6, ts))) (hw : Cond.fieldLink M.1 i RX6 "hourNow" "I" ∈ wsL_law) (ht : ts[7]? = some 0) (kk : z_Go Y M d mk (pc + 3) lv st (z_pt σ k 7 x) o) : z_Go Y M d mk pc lv (zI x :: zR k :: st) σ o := z_putI (C := RX6) (T := TX6) (N := 44) (j := 7) (ty := .int) hd hY rfl inlX6 tyX6_ok nmX6 hw rfl (Nat.le_of_ble_eq_true rfl) rfl rfl rfl rfl ht kk
theorem pfX6_8 {x : Int32} (hd : decode M.2.2.1 pc = .ok (.putfield i, 3)) (hY : Y[k]? = some (.inl (6, ts))) (hw : Cond.fieldLink M.1 i RX6 "cold" "I" ∈ wsL_law) (ht : ts[8]? = some 0) (kk : z_Go Y M d mk (pc + 3) lv st (z_pt σ k 8 x) o) : z_Go Y M d mk pc lv (zI x :: zR k :: st) σ o := z_putI (C := RX6) (T := TX6) (N := 44) (j := 8) (ty := .int) hd hY rfl inlX6 tyX6_ok nmX6 hw rfl (Nat.le_of_ble_eq_true rfl) rfl rfl rfl rfl ht kk
theorem pfX6_10 {x : Int32} (hd : decode M.2.2.1 pc = .ok (.putfield i, 3)) (hY : Y[k]? = some (.inl (6, ts))) (hw : Cond.fieldLink M.1 i RX6 "men" "I" ∈ wsL_law) (ht : ts[10]? = some 0) (kk : z_Go Y M d mk (pc + 3) lv st (z_pt σ k 10 x) o) : z_Go Y M d mk pc lv (zI x :: zR k :: st) σ o := z_putI (C := RX6) (T := TX6) (N := 44) (j := 10) (ty := .int) hd hY rfl inlX6 tyX6_ok nmX6 hw rfl (Nat.le_of_ble_eq_true rfl) rfl rfl rfl rfl ht kk
theorem pfX6_12 {x : Int32} (hd : decode M.2.2.1 pc = .ok (.putfield i, 3)) (hY : Y[k]? = some (.inl (6, ts))) (hw : Cond.fieldLink M.1 i RX6 "size" "I" ∈ wsL_law) (ht : ts[12]? = some 0) (kk : z_Go Y M d mk (pc + 3) lv st (z_pt σ k 12 x) o) : z_Go Y M d mk pc lv (zI x :: zR k :: st) σ o := z_putI (C := RX6) (T := TX6) (N := 44) (j := 12) (ty := .int) hd hY rfl inlX6 tyX6_ok nmX6 hw rfl (Nat.le_of_ble_eq_true rfl) rfl rfl rfl rfl ht kk
theorem pfX6_13 {x : Int32} (hd : decode M.2.2.1 pc = .ok (.putfield i, 3)) (hY : Y[k]? = some (.inl (6, ts))) (hw : Cond.fieldLink M.1 i RX6 "ofStrength" "I" ∈ wsL_law) (ht : ts[13]? = some 0) (kk : z_Go Y M d mk (pc + 3) lv st (z_pt σ k 13 x) o) : z_Go Y M d mk pc lv (zI x :: zR k :: st) σ o := z_putI (C := RX6) (T := TX6) (N := 44) (j := 13) (ty := .int) hd hY rfl inlX6 tyX6_ok nmX6 hw rfl (Nat.le_of_ble_eq_true rfl) rfl rfl rfl rfl ht kk
theorem pfX6_14 {x : Int32} (hd : decode M.2.2.1 pc = .ok (.putfield i, 3)) (hY : Y[k]? = some (.inl (6, ts))) (hw : Cond.fieldLink M.1 i RX6 "ofNext" "I" ∈ wsL_law) (ht : ts[14]? = some 0) (kk : z_Go Y M d mk (pc + 3) lv st (z_pt σ k 14 x) o) : z_Go Y M d mk pc lv (zI x :: zR k :: st) σ o := z_putI (C := RX6) (T := TX6) (N := 44) (j := 14) (ty := .int) hd hY rfl inlX6 tyX6_ok nmX6 hw rfl (Nat.le_of_ble_eq_true rfl) rfl rfl rfl rfl ht kk
theorem pfX6_15 {x : Int32} (hd : decode M.2.2.1 pc = .ok (.putfield i, 3)) (hY : Y[k]? = some (.inl (6, ts))) (hw : Cond.fieldLink M.1 i RX6 "ofNumber" "I" ∈ wsL_law) (ht : ts[15]? = some 0) (kk : z_Go Y M d mk (pc + 3) lv st (z_pt σ k 15 x) o) : z_Go Y M d mk pc lv (zI x :: zR k :: st) σ o := z_putI (C := RX6) (T := TX6) (N := 44) (j := 15) (ty := .int) hd hY rfl inlX6 tyX6_ok nmX6 hw rfl (Nat.le_of_ble_eq_true rfl) rfl rfl rfl rfl ht kk
theorem pfX6_16 {x : Int32} (hd : decode M.2.2.1 pc = .ok (.putfield i, 3)) (hY : Y[k]? = some (.inl (6, ts))) (hw : Cond.fieldLink M.1 i RX6 "ofHour" "I" ∈ wsL_law) (ht : ts[16]? = some 0) (kk : z_Go Y M d mk (pc + 3) lv st (z_pt σ k 16 x) o) : z_Go Y M d mk pc lv (zI x :: zR k :: st) σ o := z_putI (C := RX6) (T := TX6) (N := 44) (j := 16) (ty := .int) hd hY rfl inlX6 tyX6_ok nmX6 hw rfl (Nat.le_of_ble_eq_true rfl) rfl rfl rfl rfl ht kk
theorem pfX6_17 {x : Int32} (hd : decode M.2.2.1 pc = .ok (.putfield i, 3)) (hY : Y[k]? = some (.inl (6, ts))) (hw : Cond.fieldLink M.1 i RX6 "ofCold" "I" ∈ wsL_law) (ht : ts[17]? = some 0) (kk : z_Go Y M d mk (pc + 3) lv st (z_pt σ k 17 x) o) : z_Go Y M d mk pc lv (zI x :: zR k :: st) σ o := z_putI (C := RX6) (T := TX6) (N := 44) (j := 17) (ty := .int) hd hY rfl inlX6 tyX6_ok nmX6 hw rfl (Nat.le_of_ble_eq_true rfl) rfl rfl rfl rfl ht kk
theorem pfX6_18 {x : Int32} (hd : decode M.2.2.1 pc = .ok (.putfield i, 3)) (hY : Y[k]? = some (.inl (6, ts))) (hw : Cond.fieldLink M.1 i RX6 "ofMany" "I" ∈ wsL_law) (ht : ts[18]? = some 0) (kk : z_Go Y M d mk (pc + 3) lv st (z_pt σ k 18 x) o) : z_Go Y M d mk pc lv (zI x :: zR k :: st) σ o := z_putI (C := RX6) (T := TX6) (N := 44) (j := 18) (ty := .int) hd hY rfl inlX6 tyX6_ok nmX6 hw rfl (Nat.le_of_ble_eq_true rfl) rfl rfl rfl rfl ht kk
theorem pfX6_19 {x : Int32} (hd : decode M.2.2.1 pc = .ok (.putfield i, 3)) (hY : Y[k]? = some (.inl (6, ts))) (hw : Cond.fieldLink M.1 i RX6 "from" "I" ∈ wsL_law) (ht : ts[19]? = some 0) (kk : z_Go Y M d mk (pc + 3) lv st (z_pt σ k 19 x) o) : z_Go Y M d mk pc lv (zI x :: zR k :: st) σ o := z_putI (C := RX6) (T := TX6) (N := 44) (j := 19) (ty := .int) hd hY rfl inlX6 tyX6_ok nmX6 hw rfl (Nat.le_of_ble_eq_true rfl) rfl rfl rfl rfl ht kk
theorem pfX6_20 {x : Int32} (hd : decode M.2.2.1 pc = .ok (.putfield i, 3)) (hY : Y[k]? = some (.inl (6, ts))) (hw : Cond.fieldLink M.1 i RX6 "textEnd" "I" ∈ wsL_law) (ht : ts[20]? = some 0) (kk : z_Go Y M d mk (pc + 3) lv st (z_pt σ k 20 x) o) : z_Go Y M d mk pc lv (zI x :: zR k :: st) σ o := z_putI (C := RX6) (T := TX6) (N := 44) (j := 20) (ty := .int) hd hY rfl inlX6 tyX6_ok nmX6 hw rfl (Nat.le_of_ble_eq_true rfl) rfl rfl rfl rfl ht kk
theorem pfX6_21 {x : Int32} (hd : decode M.2.2.1 pc = .ok (.putfield i, 3)) (hY : Y[k]? = some (.inl (6, ts))) (hw : Cond.fieldLink M.1 i RX6 "here" "I" ∈ wsL_law) (ht : ts[21]? = some 0) (kk : z_Go Y M d mk (pc + 3) lv st (z_pt σ k 21 x) o) : z_Go Y M d mk pc lv (zI x :: zR k :: st) σ o := z_putI (C := RX6) (T := TX6) (N := 44) (j := 21) (ty := .int) hd hY rfl inlX6 tyX6_ok nmX6 hw rfl (Nat.le_of_ble_eq_true rfl) rfl rfl rfl rfl ht kk
theorem pfX6_22 {x : Int32} (hd : decode M.2.2.1 pc = .ok (.putfield i, 3)) (hY : Y[k]? = some (.inl (6, ts))) (hw : Cond.fieldLink M.1 i RX6 "token" "I" ∈ wsL_law) (ht : ts[22]? = some 0) (kk : z_Go Y M d mk (pc + 3) lv st (z_pt σ k 22 x) o) : z_Go Y M d mk pc lv (zI x :: zR k :: st) σ o := z_putI (C := RX6) (T := TX6) (N := 44) (j := 22) (ty := .int) hd hY rfl inlX6 tyX6_ok nmX6 hw rfl (Nat.le_of_ble_eq_true rfl) rfl rfl rfl rfl ht kk
theorem pfX6_23 {x : Int32} (hd : decode M.2.2.1 pc = .ok (.putfield i, 3)) (hY : Y[k]? = some (.inl (6, ts))) (hw : Cond.fieldLink M.1 i RX6 "tokenAt" "I" ∈ wsL_law) (ht : ts[23]? = some 0) (kk : z_Go Y M d mk (pc + 3) lv st (z_pt σ k 23 x) o) : z_Go Y M d mk pc lv (zI x :: zR k :: st) σ o := z_putI (C := RX6) (T := TX6) (N := 44) (j := 23) (ty := .int) hd hY rfl inlX6 tyX6_ok nmX6 hw rfl (Nat.le_of_ble_eq_true rfl) rfl rfl rfl rfl ht kk
theorem pfX6_24 {x : Int64} (hd : decode M.2.2.1 pc = .ok (.putfield i, 3)) (hY : Y[k]? = some (.inl (6, ts))) (hw : Cond.fieldLink M.1 i RX6 "tokenWorth" "J" ∈ wsL_law) (ht : ts[24]? = some 1) (kk : z_Go Y M d mk (pc + 3) lv st (z_pl σ k 24 x) o) : z_Go Y M d mk pc lv (zL x :: zR k :: st) σ o := z_putL (C := RX6) (T := TX6) (N := 44) (j := 24) hd hY rfl inlX6 tyX6_ok nmX6 hw rfl (Nat.le_of_ble_eq_true rfl) rfl rfl ht kk
theorem pfX6_25 {x : Int32} (hd : decode M.2.2.1 pc = .ok (.putfield i, 3)) (hY : Y[k]? = some (.inl (6, ts))) (hw : Cond.fieldLink M.1 i RX6 "open" "I" ∈ wsL_law) (ht : ts[25]? = some 0) (kk : z_Go Y M d mk (pc + 3) lv st (z_pt σ k 25 x) o) : z_Go Y M d mk pc lv (zI x :: zR k :: st) σ o := z_putI (C := RX6) (T := TX6) (N := 44) (j := 25) (ty := .int) hd hY rfl inlX6 tyX6_ok nmX6 hw rfl (Nat.le_of_ble_eq_true rfl) rfl rfl rfl rfl ht kk
theorem pfX6_26 {x : Int32} (hd : decode M.2.2.1 pc = .ok (.putfield i, 3)) (hY : Y[k]? = some (.inl (6, ts))) (hw : Cond.fieldLink M.1 i RX6 "bad" "Z" ∈ wsL_law) (h1 : narrow .boolean (.int x) = .int x) (h2 : fits .boolean (.int x) = true) (ht : ts[26]? = some 0) (kk : z_Go Y M d mk (pc + 3) lv st (z_pt σ k 26 x) o) : z_Go Y M d mk pc lv (zI x :: zR k :: st) σ o := z_putI (C := RX6) (T := TX6) (N := 44) (j := 26) (ty := .boolean) hd hY rfl inlX6 tyX6_ok nmX6 hw rfl (Nat.le_of_ble_eq_true rfl) rfl rfl h1 h2 ht kk
theorem pfX6_27 {x : Int32} (hd : decode M.2.2.1 pc = .ok (.putfield i, 3)) (hY : Y[k]? = some (.inl (6, ts))) (hw : Cond.fieldLink M.1 i RX6 "fault" "I" ∈ wsL_law) (ht : ts[27]? = some 0) (kk : z_Go Y M d mk (pc + 3) lv st (z_pt σ k 27 x) o) : z_Go Y M d mk pc lv (zI x :: zR k :: st) σ o := z_putI (C := RX6) (T := TX6) (N := 44) (j := 27) (ty := .int) hd hY rfl inlX6 tyX6_ok nmX6 hw rfl (Nat.le_of_ble_eq_true rfl) rfl rfl rfl rfl ht kk
theorem pfX6_31 {x : Int32} (hd : decode M.2.2.1 pc = .ok (.putfield i, 3)) (hY : Y[k]? = some (.inl (6, ts))) (hw : Cond.fieldLink M.1 i RX6 "bestRow" "I" ∈ wsL_law) (ht : ts[31]? = some 0) (kk : z_Go Y M d mk (pc + 3) lv st (z_pt σ k 31 x) o) : z_Go Y M d mk pc lv (zI x :: zR k :: st) σ o := z_putI (C := RX6) (T := TX6) (N := 44) (j := 31) (ty := .int) hd hY rfl inlX6 tyX6_ok nmX6 hw rfl (Nat.le_of_ble_eq_true rfl) rfl rfl rfl rfl ht kk
theorem pfX6_32 {x : Int32} (hd : decode M.2.2.1 pc = .ok (.putfield i, 3)) (hY : Y[k]? = some (.inl (6, ts))) (hw : Cond.fieldLink M.1 i RX6 "bestHard" "I" ∈ wsL_law) (ht : ts[32]? = some 0) (kk : z_Go Y M d mk (pc + 3) lv st (z_pt σ k 32 x) o) : z_Go Y M d mk pc lv (zI x :: zR k :: st) σ o := z_putI (C := RX6) (T := TX6) (N := 44) (j := 32) (ty := .int) hd hY rfl inlX6 tyX6_ok nmX6 hw rfl (Nat.le_of_ble_eq_true rfl) rfl rfl rfl rfl ht kk
theorem pfX6_35 {x : Int32} (hd : decode M.2.2.1 pc = .ok (.putfield i, 3)) (hY : Y[k]? = some (.inl (6, ts))) (hw : Cond.fieldLink M.1 i RX6 "menKept" "I" ∈ wsL_law) (ht : ts[35]? = some 0) (kk : z_Go Y M d mk (pc + 3) lv st (z_pt σ k 35 x) o) : z_Go Y M d mk pc lv (zI x :: zR k :: st) σ o := z_putI (C := RX6) (T := TX6) (N := 44) (j := 35) (ty := .int) hd hY rfl inlX6 tyX6_ok nmX6 hw rfl (Nat.le_of_ble_eq_true rfl) rfl rfl rfl rfl ht kk
theorem pfX6_36 {x : Int32} (hd : decode M.2.2.1 pc = .ok (.putfield i, 3)) (hY : Y[k]? = some (.inl (6, ts))) (hw : Cond.fieldLink M.1 i RX6 "sizeKept" "I" ∈ wsL_law) (ht : ts[36]? = some 0) (kk : z_Go Y M d mk (pc + 3) lv st (z_pt σ k 36 x) o) : z_Go Y M d mk pc lv (zI x :: zR k :: st) σ o := z_putI (C := RX6) (T := TX6) (N := 44) (j := 36) (ty := .int) hd hY rfl inlX6 tyX6_ok nmX6 hw rfl (Nat.le_of_ble_eq_true rfl) rfl rfl rfl rfl ht kk
theorem pfX6_37 {x : Int32} (hd : decode M.2.2.1 pc = .ok (.putfield i, 3)) (hY : Y[k]? = some (.inl (6, ts))) (hw : Cond.fieldLink M.1 i RX6 "hourKept" "I" ∈ wsL_law) (ht : ts[37]? = some 0) (kk : z_Go Y M d mk (pc + 3) lv st (z_pt σ k 37 x) o) : z_Go Y M d mk pc lv (zI x :: zR k :: st) σ o := z_putI (C := RX6) (T := TX6) (N := 44) (j := 37) (ty := .int) hd hY rfl inlX6 tyX6_ok nmX6 hw rfl (Nat.le_of_ble_eq_true rfl) rfl rfl rfl rfl ht kk
theorem pfX6_38 {x : Int32} (hd : decode M.2.2.1 pc = .ok (.putfield i, 3)) (hY : Y[k]? = some (.inl (6, ts))) (hw : Cond.fieldLink M.1 i RX6 "coldKept" "I" ∈ wsL_law) (ht : ts[38]? = some 0) (kk : z_Go Y M d mk (pc + 3) lv st (z_pt σ k 38 x) o) : z_Go Y M d mk pc lv (zI x :: zR k :: st) σ o := z_putI (C := RX6) (T := TX6) (N := 44) (j := 38) (ty := .int) hd hY rfl inlX6 tyX6_ok nmX6 hw rfl (Nat.le_of_ble_eq_true rfl) rfl rfl rfl rfl ht kk
theorem pfX6_39 {x : Int32} (hd : decode M.2.2.1 pc = .ok (.putfield i, 3)) (hY : Y[k]? = some (.inl (6, ts))) (hw : Cond.fieldLink M.1 i RX6 "ruleKept" "I" ∈ wsL_law) (ht : ts[39]? = some 0) (kk : z_Go Y M d mk (pc + 3) lv st (z_pt σ k 39 x) o) : z_Go Y M d mk pc lv (zI x :: zR k :: st) σ o := z_putI (C := RX6) (T := TX6) (N := 44) (j := 39) (ty := .int) hd hY rfl inlX6 tyX6_ok nmX6 hw rfl (Nat.le_of_ble_eq_true rfl) rfl rfl rfl rfl ht kk
end ZG
def z_LV (own : String) (i : Nat) (M' : z_M) (n : Nat) : Prop := z_lk own i M' ∧ Cond.instanceMethod M'.2.1 ∈ wsL_law ∧ Cond.selects M'.2.1.cls M'.2.1 M'.2.1 ∈ wsL_law ∧ (M'.2.1.cls ≠ "java/lang/invoke/MethodHandle" ∧ M'.2.1.cls ≠ "java/lang/invoke/VarHandle" ∧ (parseMethodDescriptor M'.2.1.desc).map (fun d => d.parameters.length) = some n) ∧ M'.2.2.2.1 ≤ 13
def z_LS (own : String) (i : Nat) (M' : z_M) (n : Nat) : Prop := z_lk own i M' ∧ Cond.static M'.2.1 ∈ wsL_law ∧ (M'.2.1.cls ≠ "java/lang/invoke/MethodHandle" ∧ M'.2.1.cls ≠ "java/lang/invoke/VarHandle" ∧ (parseMethodDescriptor M'.2.1.desc).map (fun d => d.parameters.length) = some n) ∧ M'.2.2.2.1 ≤ 13
def z_LN (own : String) (i : Nat) (M' : z_M) (n : Nat) : Prop := (∀ ad A U H, z_Env ad A U H → va_Nw (.methodLinkNest own i M'.2.1 RX5) U) ∧ Cond.initialized M'.2.1.cls ∈ wsL_law ∧ Cond.code M'.2.1 M'.2.2.1 M'.2.2.2.1 M'.2.2.2.2 ∈ wsL_law ∧ Cond.static M'.2.1 ∈ wsL_law ∧ (M'.2.1.cls ≠ "java/lang/invoke/MethodHandle" ∧ M'.2.1.cls ≠ "java/lang/invoke/VarHandle" ∧ (parseMethodDescriptor M'.2.1.desc).map (fun d => d.parameters.length) = some n) ∧ M'.2.2.2.1 ≤ 13
theorem z_N1i {α : Type} {Y : z_Lay} {M M' : z_M} {d : Nat} {mk : α → Option z_V} {pc i : Nat} {lv : List (Option z_V)} {st : List z_V} {σ : z_Mem} {o1 : Option (Int32 × z_Mem)} {k : Int32 → z_Mem → Option (α × z_Mem)} {b1 : z_V} (hd : decode M.2.2.1 pc = .ok (.invokestatic i, 3)) (L : z_LN M.1 i M' 1) (hcs : z_catS st ≤ 8) (hcall : z_Call Y M' d z_i [b1] σ o1) (kk : ∀ (r : Int32) (σ1 : z_Mem), z_Go Y M (d + 1) mk (pc + 3) lv (zI r :: st) σ1 (k r σ1)) : z_Go Y M (d + 1) mk pc lv (b1 :: st) σ (z_bd o1 k) := z_invN (av := [b1]) hd rfl L.1 L.2.1 L.2.2.1 L.2.2.2.1 L.2.2.2.2.1 rfl L.2.2.2.2.2 hcs hcall kk
theorem z_N2i {α : Type} {Y : z_Lay} {M M' : z_M} {d : Nat} {mk : α → Option z_V} {pc i : Nat} {lv : List (Option z_V)} {st : List z_V} {σ : z_Mem} {o1 : Option (Int32 × z_Mem)} {k : Int32 → z_Mem → Option (α × z_Mem)} {b1 b2 : z_V} (hd : decode M.2.2.1 pc = .ok (.invokestatic i, 3)) (L : z_LN M.1 i M' 2) (hcs : z_catS st ≤ 8) (hcall : z_Call Y M' d z_i [b1, b2] σ o1) (kk : ∀ (r : Int32) (σ1 : z_Mem), z_Go Y M (d + 1) mk (pc + 3) lv (zI r :: st) σ1 (k r σ1)) : z_Go Y M (d + 1) mk pc lv (b2 :: b1 :: st) σ (z_bd o1 k) := z_invN (av := [b1, b2]) hd rfl L.1 L.2.1 L.2.2.1 L.2.2.2.1 L.2.2.2.2.1 rfl L.2.2.2.2.2 hcs hcall kk
theorem z_S1i {α : Type} {Y : z_Lay} {M M' : z_M} {d : Nat} {mk : α → Option z_V} {pc i : Nat} {lv : List (Option z_V)} {st : List z_V} {σ : z_Mem} {o1 : Option (Int32 × z_Mem)} {k : Int32 → z_Mem → Option (α × z_Mem)} {b1 : z_V} (hd : decode M.2.2.1 pc = .ok (.invokestatic i, 3)) (L : z_LS M.1 i M' 1) (hcs : z_catS st ≤ 8) (hcall : z_Call Y M' d z_i [b1] σ o1) (kk : ∀ (r : Int32) (σ1 : z_Mem), z_Go Y M (d + 1) mk (pc + 3) lv (zI r :: st) σ1 (k r σ1)) : z_Go Y M (d + 1) mk pc lv (b1 :: st) σ (z_bd o1 k) := z_invS (av := [b1]) hd rfl L.1 L.2.1 L.2.2.1 rfl L.2.2.2 hcs hcall kk
theorem z_S1r {α : Type} {Y : z_Lay} {M M' : z_M} {d : Nat} {mk : α → Option z_V} {pc i : Nat} {lv : List (Option z_V)} {st : List z_V} {σ : z_Mem} {o1 : Option (Nat × z_Mem)} {k : Nat → z_Mem → Option (α × z_Mem)} {b1 : z_V} (hd : decode M.2.2.1 pc = .ok (.invokestatic i, 3)) (L : z_LS M.1 i M' 1) (hcs : z_catS st ≤ 8) (hcall : z_Call Y M' d z_r [b1] σ o1) (kk : ∀ (r : Nat) (σ1 : z_Mem), z_Go Y M (d + 1) mk (pc + 3) lv (zR r :: st) σ1 (k r σ1)) : z_Go Y M (d + 1) mk pc lv (b1 :: st) σ (z_bd o1 k) := z_invS (av := [b1]) hd rfl L.1 L.2.1 L.2.2.1 rfl L.2.2.2 hcs hcall kk
theorem z_S2i {α : Type} {Y : z_Lay} {M M' : z_M} {d : Nat} {mk : α → Option z_V} {pc i : Nat} {lv : List (Option z_V)} {st : List z_V} {σ : z_Mem} {o1 : Option (Int32 × z_Mem)} {k : Int32 → z_Mem → Option (α × z_Mem)} {b1 b2 : z_V} (hd : decode M.2.2.1 pc = .ok (.invokestatic i, 3)) (L : z_LS M.1 i M' 2) (hcs : z_catS st ≤ 8) (hcall : z_Call Y M' d z_i [b1, b2] σ o1) (kk : ∀ (r : Int32) (σ1 : z_Mem), z_Go Y M (d + 1) mk (pc + 3) lv (zI r :: st) σ1 (k r σ1)) : z_Go Y M (d + 1) mk pc lv (b2 :: b1 :: st) σ (z_bd o1 k) := z_invS (av := [b1, b2]) hd rfl L.1 L.2.1 L.2.2.1 rfl L.2.2.2 hcs hcall kk
theorem z_S3i {α : Type} {Y : z_Lay} {M M' : z_M} {d : Nat} {mk : α → Option z_V} {pc i : Nat} {lv : List (Option z_V)} {st : List z_V} {σ : z_Mem} {o1 : Option (Int32 × z_Mem)} {k : Int32 → z_Mem → Option (α × z_Mem)} {b1 b2 b3 : z_V} (hd : decode M.2.2.1 pc = .ok (.invokestatic i, 3)) (L : z_LS M.1 i M' 3) (hcs : z_catS st ≤ 8) (hcall : z_Call Y M' d z_i [b1, b2, b3] σ o1) (kk : ∀ (r : Int32) (σ1 : z_Mem), z_Go Y M (d + 1) mk (pc + 3) lv (zI r :: st) σ1 (k r σ1)) : z_Go Y M (d + 1) mk pc lv (b3 :: b2 :: b1 :: st) σ (z_bd o1 k) := z_invS (av := [b1, b2, b3]) hd rfl L.1 L.2.1 L.2.2.1 rfl L.2.2.2 hcs hcall kk
theorem z_S3l {α : Type} {Y : z_Lay} {M M' : z_M} {d : Nat} {mk : α → Option z_V} {pc i : Nat} {lv : List (Option z_V)} {st : List z_V} {σ : z_Mem} {o1 : Option (Int64 × z_Mem)} {k : Int64 → z_Mem → Option (α × z_Mem)} {b1 b2 b3 : z_V} (hd : decode M.2.2.1 pc = .ok (.invokestatic i, 3)) (L : z_LS M.1 i M' 3) (hcs : z_catS st ≤ 8) (hcall : z_Call Y M' d z_l [b1, b2, b3] σ o1) (kk : ∀ (r : Int64) (σ1 : z_Mem), z_Go Y M (d + 1) mk (pc + 3) lv (zL r :: st) σ1 (k r σ1)) : z_Go Y M (d + 1) mk pc lv (b3 :: b2 :: b1 :: st) σ (z_bd o1 k) := z_invS (av := [b1, b2, b3]) hd rfl L.1 L.2.1 L.2.2.1 rfl L.2.2.2 hcs hcall kk
theorem z_V0i {α : Type} {Y : z_Lay} {M M' : z_M} {d : Nat} {mk : α → Option z_V} {pc i : Nat} {lv : List (Option z_V)} {st : List z_V} {σ : z_Mem} {o1 : Option (Int32 × z_Mem)} {k : Int32 → z_Mem → Option (α × z_Mem)} {kc ci N : Nat} {ts : List Nat} {T : u_T} (hd : decode M.2.2.1 pc = .ok (.invokevirtual i, 3)) (L : z_LV M.1 i M' 0) (hY : Y[kc]? = some (.inl (ci, ts))) (hc : vwCl[ci]? = some (M'.2.1.cls, T, N)) (hcs : z_catS st ≤ 8) (hcall : z_Call Y M' d z_i [zR kc] σ o1) (kk : ∀ (r : Int32) (σ1 : z_Mem), z_Go Y M (d + 1) mk (pc + 3) lv (zI r :: st) σ1 (k r σ1)) : z_Go Y M (d + 1) mk pc lv (zR kc :: st) σ (z_bd o1 k) := z_invV (av := []) hd rfl L.1 L.2.1 L.2.2.1 hY hc L.2.2.2.1 rfl L.2.2.2.2 hcs hcall kk
theorem z_V0u {α : Type} {Y : z_Lay} {M M' : z_M} {d : Nat} {mk : α → Option z_V} {pc i : Nat} {lv : List (Option z_V)} {st : List z_V} {σ : z_Mem} {o1 : Option (Unit × z_Mem)} {k : Unit → z_Mem → Option (α × z_Mem)} {kc ci N : Nat} {ts : List Nat} {T : u_T} (hd : decode M.2.2.1 pc = .ok (.invokevirtual i, 3)) (L : z_LV M.1 i M' 0) (hY : Y[kc]? = some (.inl (ci, ts))) (hc : vwCl[ci]? = some (M'.2.1.cls, T, N)) (hcs : z_catS st ≤ 8) (hcall : z_Call Y M' d z_u [zR kc] σ o1) (kk : ∀ (r : Unit) (σ1 : z_Mem), z_Go Y M (d + 1) mk (pc + 3) lv (st) σ1 (k r σ1)) : z_Go Y M (d + 1) mk pc lv (zR kc :: st) σ (z_bd o1 k) := z_invV (av := []) hd rfl L.1 L.2.1 L.2.2.1 hY hc L.2.2.2.1 rfl L.2.2.2.2 hcs hcall kk
theorem z_V1i {α : Type} {Y : z_Lay} {M M' : z_M} {d : Nat} {mk : α → Option z_V} {pc i : Nat} {lv : List (Option z_V)} {st : List z_V} {σ : z_Mem} {o1 : Option (Int32 × z_Mem)} {k : Int32 → z_Mem → Option (α × z_Mem)} {b1 : z_V} {kc ci N : Nat} {ts : List Nat} {T : u_T} (hd : decode M.2.2.1 pc = .ok (.invokevirtual i, 3)) (L : z_LV M.1 i M' 1) (hY : Y[kc]? = some (.inl (ci, ts))) (hc : vwCl[ci]? = some (M'.2.1.cls, T, N)) (hcs : z_catS st ≤ 8) (hcall : z_Call Y M' d z_i [zR kc, b1] σ o1) (kk : ∀ (r : Int32) (σ1 : z_Mem), z_Go Y M (d + 1) mk (pc + 3) lv (zI r :: st) σ1 (k r σ1)) : z_Go Y M (d + 1) mk pc lv (b1 :: zR kc :: st) σ (z_bd o1 k) := z_invV (av := [b1]) hd rfl L.1 L.2.1 L.2.2.1 hY hc L.2.2.2.1 rfl L.2.2.2.2 hcs hcall kk
theorem z_V1u {α : Type} {Y : z_Lay} {M M' : z_M} {d : Nat} {mk : α → Option z_V} {pc i : Nat} {lv : List (Option z_V)} {st : List z_V} {σ : z_Mem} {o1 : Option (Unit × z_Mem)} {k : Unit → z_Mem → Option (α × z_Mem)} {b1 : z_V} {kc ci N : Nat} {ts : List Nat} {T : u_T} (hd : decode M.2.2.1 pc = .ok (.invokevirtual i, 3)) (L : z_LV M.1 i M' 1) (hY : Y[kc]? = some (.inl (ci, ts))) (hc : vwCl[ci]? = some (M'.2.1.cls, T, N)) (hcs : z_catS st ≤ 8) (hcall : z_Call Y M' d z_u [zR kc, b1] σ o1) (kk : ∀ (r : Unit) (σ1 : z_Mem), z_Go Y M (d + 1) mk (pc + 3) lv (st) σ1 (k r σ1)) : z_Go Y M (d + 1) mk pc lv (b1 :: zR kc :: st) σ (z_bd o1 k) := z_invV (av := [b1]) hd rfl L.1 L.2.1 L.2.2.1 hY hc L.2.2.2.1 rfl L.2.2.2.2 hcs hcall kk
theorem z_V2i {α : Type} {Y : z_Lay} {M M' : z_M} {d : Nat} {mk : α → Option z_V} {pc i : Nat} {lv : List (Option z_V)} {st : List z_V} {σ : z_Mem} {o1 : Option (Int32 × z_Mem)} {k : Int32 → z_Mem → Option (α × z_Mem)} {b1 b2 : z_V} {kc ci N : Nat} {ts : List Nat} {T : u_T} (hd : decode M.2.2.1 pc = .ok (.invokevirtual i, 3)) (L : z_LV M.1 i M' 2) (hY : Y[kc]? = some (.inl (ci, ts))) (hc : vwCl[ci]? = some (M'.2.1.cls, T, N)) (hcs : z_catS st ≤ 8) (hcall : z_Call Y M' d z_i [zR kc, b1, b2] σ o1) (kk : ∀ (r : Int32) (σ1 : z_Mem), z_Go Y M (d + 1) mk (pc + 3) lv (zI r :: st) σ1 (k r σ1)) : z_Go Y M (d + 1) mk pc lv (b2 :: b1 :: zR kc :: st) σ (z_bd o1 k) := z_invV (av := [b1, b2]) hd rfl L.1 L.2.1 L.2.2.1 hY hc L.2.2.2.1 rfl L.2.2.2.2 hcs hcall kk
theorem z_V2u {α : Type} {Y : z_Lay} {M M' : z_M} {d : Nat} {mk : α → Option z_V} {pc i : Nat} {lv : List (Option z_V)} {st : List z_V} {σ : z_Mem} {o1 : Option (Unit × z_Mem)} {k : Unit → z_Mem → Option (α × z_Mem)} {b1 b2 : z_V} {kc ci N : Nat} {ts : List Nat} {T : u_T} (hd : decode M.2.2.1 pc = .ok (.invokevirtual i, 3)) (L : z_LV M.1 i M' 2) (hY : Y[kc]? = some (.inl (ci, ts))) (hc : vwCl[ci]? = some (M'.2.1.cls, T, N)) (hcs : z_catS st ≤ 8) (hcall : z_Call Y M' d z_u [zR kc, b1, b2] σ o1) (kk : ∀ (r : Unit) (σ1 : z_Mem), z_Go Y M (d + 1) mk (pc + 3) lv (st) σ1 (k r σ1)) : z_Go Y M (d + 1) mk pc lv (b2 :: b1 :: zR kc :: st) σ (z_bd o1 k) := z_invV (av := [b1, b2]) hd rfl L.1 L.2.1 L.2.2.1 hY hc L.2.2.2.1 rfl L.2.2.2.2 hcs hcall kk
theorem z_V3i {α : Type} {Y : z_Lay} {M M' : z_M} {d : Nat} {mk : α → Option z_V} {pc i : Nat} {lv : List (Option z_V)} {st : List z_V} {σ : z_Mem} {o1 : Option (Int32 × z_Mem)} {k : Int32 → z_Mem → Option (α × z_Mem)} {b1 b2 b3 : z_V} {kc ci N : Nat} {ts : List Nat} {T : u_T} (hd : decode M.2.2.1 pc = .ok (.invokevirtual i, 3)) (L : z_LV M.1 i M' 3) (hY : Y[kc]? = some (.inl (ci, ts))) (hc : vwCl[ci]? = some (M'.2.1.cls, T, N)) (hcs : z_catS st ≤ 8) (hcall : z_Call Y M' d z_i [zR kc, b1, b2, b3] σ o1) (kk : ∀ (r : Int32) (σ1 : z_Mem), z_Go Y M (d + 1) mk (pc + 3) lv (zI r :: st) σ1 (k r σ1)) : z_Go Y M (d + 1) mk pc lv (b3 :: b2 :: b1 :: zR kc :: st) σ (z_bd o1 k) := z_invV (av := [b1, b2, b3]) hd rfl L.1 L.2.1 L.2.2.1 hY hc L.2.2.2.1 rfl L.2.2.2.2 hcs hcall kk
theorem z_V3u {α : Type} {Y : z_Lay} {M M' : z_M} {d : Nat} {mk : α → Option z_V} {pc i : Nat} {lv : List (Option z_V)} {st : List z_V} {σ : z_Mem} {o1 : Option (Unit × z_Mem)} {k : Unit → z_Mem → Option (α × z_Mem)} {b1 b2 b3 : z_V} {kc ci N : Nat} {ts : List Nat} {T : u_T} (hd : decode M.2.2.1 pc = .ok (.invokevirtual i, 3)) (L : z_LV M.1 i M' 3) (hY : Y[kc]? = some (.inl (ci, ts))) (hc : vwCl[ci]? = some (M'.2.1.cls, T, N)) (hcs : z_catS st ≤ 8) (hcall : z_Call Y M' d z_u [zR kc, b1, b2, b3] σ o1) (kk : ∀ (r : Unit) (σ1 : z_Mem), z_Go Y M (d + 1) mk (pc + 3) lv (st) σ1 (k r σ1)) : z_Go Y M (d + 1) mk pc lv (b3 :: b2 :: b1 :: zR kc :: st) σ (z_bd o1 k) := z_invV (av := [b1, b2, b3]) hd rfl L.1 L.2.1 L.2.2.1 hY hc L.2.2.2.1 rfl L.2.2.2.2 hcs hcall kk
theorem z_V4i {α : Type} {Y : z_Lay} {M M' : z_M} {d : Nat} {mk : α → Option z_V} {pc i : Nat} {lv : List (Option z_V)} {st : List z_V} {σ : z_Mem} {o1 : Option (Int32 × z_Mem)} {k : Int32 → z_Mem → Option (α × z_Mem)} {b1 b2 b3 b4 : z_V} {kc ci N : Nat} {ts : List Nat} {T : u_T} (hd : decode M.2.2.1 pc = .ok (.invokevirtual i, 3)) (L : z_LV M.1 i M' 4) (hY : Y[kc]? = some (.inl (ci, ts))) (hc : vwCl[ci]? = some (M'.2.1.cls, T, N)) (hcs : z_catS st ≤ 8) (hcall : z_Call Y M' d z_i [zR kc, b1, b2, b3, b4] σ o1) (kk : ∀ (r : Int32) (σ1 : z_Mem), z_Go Y M (d + 1) mk (pc + 3) lv (zI r :: st) σ1 (k r σ1)) : z_Go Y M (d + 1) mk pc lv (b4 :: b3 :: b2 :: b1 :: zR kc :: st) σ (z_bd o1 k) := z_invV (av := [b1, b2, b3, b4]) hd rfl L.1 L.2.1 L.2.2.1 hY hc L.2.2.2.1 rfl L.2.2.2.2 hcs hcall kk
theorem z_V8i {α : Type} {Y : z_Lay} {M M' : z_M} {d : Nat} {mk : α → Option z_V} {pc i : Nat} {lv : List (Option z_V)} {st : List z_V} {σ : z_Mem} {o1 : Option (Int32 × z_Mem)} {k : Int32 → z_Mem → Option (α × z_Mem)} {b1 b2 b3 b4 b5 b6 b7 b8 : z_V} {kc ci N : Nat} {ts : List Nat} {T : u_T} (hd : decode M.2.2.1 pc = .ok (.invokevirtual i, 3)) (L : z_LV M.1 i M' 8) (hY : Y[kc]? = some (.inl (ci, ts))) (hc : vwCl[ci]? = some (M'.2.1.cls, T, N)) (hcs : z_catS st ≤ 8) (hcall : z_Call Y M' d z_i [zR kc, b1, b2, b3, b4, b5, b6, b7, b8] σ o1) (kk : ∀ (r : Int32) (σ1 : z_Mem), z_Go Y M (d + 1) mk (pc + 3) lv (zI r :: st) σ1 (k r σ1)) : z_Go Y M (d + 1) mk pc lv (b8 :: b7 :: b6 :: b5 :: b4 :: b3 :: b2 :: b1 :: zR kc :: st) σ (z_bd o1 k) := z_invV (av := [b1, b2, b3, b4, b5, b6, b7, b8]) hd rfl L.1 L.2.1 L.2.2.1 hY hc L.2.2.2.1 rfl L.2.2.2.2 hcs hcall kk
