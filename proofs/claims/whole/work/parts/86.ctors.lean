def mkX4 (cy : z_Cy) (h0 q1 q2 q3 : Nat) : va_W := [(h0, .inr (4, [.ref q1, .ref q2, .ref q3, .int 0, .int 0])), z_ia cy q1 960, z_ia cy q2 18, z_ia cy q3 64]
set_option maxHeartbeats 4000000 in
set_option maxRecDepth 100000 in
theorem nX4 (l : Launch) (D : va_G) (cy : z_Cy) (h0 sz : Nat) : Met l yX4_init (z_wl mX4_init) { frames := 1, cells := 3, slots := 1042, locals := 12 } (z_Pn D cy h0 sz 4 [.null, .null, .null, .int 0, .int 0] []) (z_Qn D h0 sz (fun ws => ∃ q1 q2 q3, ws = mkX4 cy h0 q1 q2 q3)) 3 1042 (z_An h0 sz) := by
  refine Met.ofW (cc := cX4_init) (maxL := 1) (ret := none) (by decide) rfl ?_
  intro p e s m args below meth c s₁ B hml hv
  obtain ⟨rfl, hsz, hP, hK⟩ := hv
  have hts := atoms_spec (ws := z_wl mX4_init) B.pre
  have C0 : z_K0 RX4 cX4_init 1 p s m _ meth c D cy := ⟨B.exec, B.bytes, hml, findClass_of_methodNamed B.named, fun w hw => hts w (List.mem_cons_of_mem _ hw), hK, (name_of_methodNamed B.named B.method).1⟩
  have hr := B.returns
  have hlocks := B.notSynchronized
  subst hsz
  have hD : va_D (z_An h0 s.heap.size) [(h0, .inr (4, [.null, .null, .null, .int 0, .int 0]))] := z_Dn
  have hA : ∀ q : Nat, s.heap.size ≤ q → z_An h0 s.heap.size q := fun q h => Or.inr h
  have hS : va_S (z_An h0 s.heap.size) s.heap s.heap [] := va_S.rf
  have hl := lv_entry ([.ref h0]) (n := 1) (Nat.le_of_ble_eq_true rfl)
  rw [lg_entry_eq]
  generalize (lg_sl ([.ref h0]) ++ List.replicate (1 - (lg_sl ([.ref h0])).length) Slot.unset).toArray = ls at hl ⊢
  have hl : lv_has ls 1 [(0, .ref h0)] := hl
  refine z_mkO C0 dX4_init_0 (lv_at hl 0 rfl) dX4_init_1 (zs2 _ (List.mem_of_getElem? (i := 12) rfl)) (zs1 _ (List.mem_of_getElem? (i := 10) rfl)) (zs1 _ (List.mem_of_getElem? (i := 11) rfl)) hl.1 ⟨Nat.le_of_ble_eq_true rfl, Nat.le_of_ble_eq_true rfl⟩ ?_
  refine z_mkA (pc1 := 8) (ci := 4) (k := 0) (N' := 960) (T := TX4) (N := 5) (ty0 := tyX4) C0 hP hD hS hA dX4_init_4 (lv_at hl 0 rfl) (fun k => lv_sipush B.exec B.bytes dX4_init_5 rfl k) dX4_init_8 dX4_init_10 (zs2 _ (List.mem_of_getElem? (i := 13) rfl)) (by decide) (by decide) (by decide) (Nat.le_of_ble_eq_true rfl) (Nat.le_of_ble_eq_true rfl) rfl rfl inlX4 tyX4_ok nmX4 (by decide) (zs2 _ (List.mem_of_getElem? (i := 14) rfl)) rfl rfl (by decide +kernel) (Nat.le_of_ble_eq_true rfl) (fun q1 H locs hP hD hS => ?_)
  have hP : va_P D vwCl [(h0, .inr (4, [.ref q1, .null, .null, .int 0, .int 0])), z_ia cy q1 960] H := hP
  have hD : va_D (z_An h0 s.heap.size) [(h0, .inr (4, [.ref q1, .null, .null, .int 0, .int 0])), z_ia cy q1 960] := hD
  refine z_mkA (pc1 := 16) (ci := 4) (k := 1) (N' := 18) (T := TX4) (N := 5) (ty0 := tyX4) C0 hP hD hS hA dX4_init_13 (lv_at hl 0 rfl) (fun k => lv_bipush B.exec B.bytes dX4_init_14 rfl k) dX4_init_16 dX4_init_18 (zs2 _ (List.mem_of_getElem? (i := 13) rfl)) (by decide) (by decide) (by decide) (Nat.le_of_ble_eq_true rfl) (Nat.le_of_ble_eq_true rfl) rfl rfl inlX4 tyX4_ok nmX4 (by decide) (zs2 _ (List.mem_of_getElem? (i := 15) rfl)) rfl rfl (by decide +kernel) (Nat.le_of_ble_eq_true rfl) (fun q2 H locs hP hD hS => ?_)
  have hP : va_P D vwCl [(h0, .inr (4, [.ref q1, .ref q2, .null, .int 0, .int 0])), z_ia cy q1 960, z_ia cy q2 18] H := hP
  have hD : va_D (z_An h0 s.heap.size) [(h0, .inr (4, [.ref q1, .ref q2, .null, .int 0, .int 0])), z_ia cy q1 960, z_ia cy q2 18] := hD
  refine z_mkA (pc1 := 24) (ci := 4) (k := 2) (N' := 64) (T := TX4) (N := 5) (ty0 := tyX4) C0 hP hD hS hA dX4_init_21 (lv_at hl 0 rfl) (fun k => lv_bipush B.exec B.bytes dX4_init_22 rfl k) dX4_init_24 dX4_init_26 (zs2 _ (List.mem_of_getElem? (i := 13) rfl)) (by decide) (by decide) (by decide) (Nat.le_of_ble_eq_true rfl) (Nat.le_of_ble_eq_true rfl) rfl rfl inlX4 tyX4_ok nmX4 (by decide) (zs2 _ (List.mem_of_getElem? (i := 16) rfl)) rfl rfl (by decide +kernel) (Nat.le_of_ble_eq_true rfl) (fun q3 H locs hP hD hS => ?_)
  have hP : va_P D vwCl [(h0, .inr (4, [.ref q1, .ref q2, .ref q3, .int 0, .int 0])), z_ia cy q1 960, z_ia cy q2 18, z_ia cy q3 64] H := hP
  have hD : va_D (z_An h0 s.heap.size) [(h0, .inr (4, [.ref q1, .ref q2, .ref q3, .int 0, .int 0])), z_ia cy q1 960, z_ia cy q2 18, z_ia cy q3 64] := hD
  exact W.vret B.exec B.bytes hr (fun t ht hW => ⟨rfl, ⟨_, ⟨q1, q2, q3, rfl⟩, by rw [ht]; exact hP, hD⟩, hS.F ht⟩) hS.2.2 dX4_init_29
def mkX2 (cy : z_Cy) (h0 h1 q1 : Nat) : va_W := [(h0, .inr (2, [.ref h1, .ref q1, .int 0, .int 0, .int 0, .int 0, .int 0])), z_ia cy q1 160]
set_option maxHeartbeats 4000000 in
set_option maxRecDepth 100000 in
theorem nX2 (l : Launch) (D : va_G) (cy : z_Cy) (h0 sz : Nat) (h1 : Nat) : Met l yX2_init (z_wl mX2_init) { frames := 1, cells := 1, slots := 160, locals := 12 } (z_Pn D cy h0 sz 2 [.null, .null, .int 0, .int 0, .int 0, .int 0, .int 0] [.ref h1]) (z_Qn D h0 sz (fun ws => ∃ q1, ws = mkX2 cy h0 h1 q1)) 1 160 (z_An h0 sz) := by
  refine Met.ofW (cc := cX2_init) (maxL := 2) (ret := none) (by decide) rfl ?_
  intro p e s m args below meth c s₁ B hml hv
  obtain ⟨rfl, hsz, hP, hK⟩ := hv
  have hts := atoms_spec (ws := z_wl mX2_init) B.pre
  have C0 : z_K0 RX2 cX2_init 2 p s m _ meth c D cy := ⟨B.exec, B.bytes, hml, findClass_of_methodNamed B.named, fun w hw => hts w (List.mem_cons_of_mem _ hw), hK, (name_of_methodNamed B.named B.method).1⟩
  have hr := B.returns
  have hlocks := B.notSynchronized
  subst hsz
  have hD : va_D (z_An h0 s.heap.size) [(h0, .inr (2, [.null, .null, .int 0, .int 0, .int 0, .int 0, .int 0]))] := z_Dn
  have hA : ∀ q : Nat, s.heap.size ≤ q → z_An h0 s.heap.size q := fun q h => Or.inr h
  have hS : va_S (z_An h0 s.heap.size) s.heap s.heap [] := va_S.rf
  have hl := lv_entry ([.ref h0, .ref h1]) (n := 2) (Nat.le_of_ble_eq_true rfl)
  rw [lg_entry_eq]
  generalize (lg_sl ([.ref h0, .ref h1]) ++ List.replicate (2 - (lg_sl ([.ref h0, .ref h1])).length) Slot.unset).toArray = ls at hl ⊢
  have hl : lv_has ls 2 [(0, .ref h0), (1, .ref h1)] := hl
  refine z_mkO C0 dX2_init_0 (lv_at hl 0 rfl) dX2_init_1 (zs2 _ (List.mem_of_getElem? (i := 20) rfl)) (zs1 _ (List.mem_of_getElem? (i := 10) rfl)) (zs1 _ (List.mem_of_getElem? (i := 11) rfl)) hl.1 ⟨Nat.le_of_ble_eq_true rfl, Nat.le_of_ble_eq_true rfl⟩ ?_
  refine z_mkA (pc1 := 8) (ci := 2) (k := 1) (N' := 160) (T := TX2) (N := 7) (ty0 := tyX2) C0 hP hD hS hA dX2_init_4 (lv_at hl 0 rfl) (fun k => lv_sipush B.exec B.bytes dX2_init_5 rfl k) dX2_init_8 dX2_init_10 (zs2 _ (List.mem_of_getElem? (i := 13) rfl)) (by decide) (by decide) (by decide) (Nat.le_of_ble_eq_true rfl) (Nat.le_of_ble_eq_true rfl) rfl rfl inlX2 tyX2_ok nmX2 (by decide) (zs2 _ (List.mem_of_getElem? (i := 21) rfl)) rfl rfl (by decide +kernel) (Nat.le_of_ble_eq_true rfl) (fun q1 H locs hP hD hS => ?_)
  have hP : va_P D vwCl [(h0, .inr (2, [.null, .ref q1, .int 0, .int 0, .int 0, .int 0, .int 0])), z_ia cy q1 160] H := hP
  have hD : va_D (z_An h0 s.heap.size) [(h0, .inr (2, [.null, .ref q1, .int 0, .int 0, .int 0, .int 0, .int 0])), z_ia cy q1 160] := hD
  refine z_mkR (h1 := h1) (ci := 2) (k := 0) (T := TX2) (N := 7) (ty0 := tyX2) (C := "WallsOfPrisoners$Texts") C0 hP hD hS dX2_init_13 (lv_at hl 0 rfl) dX2_init_14 (lv_at hl 1 rfl) dX2_init_15 rfl rfl inlX2 tyX2_ok nmX2 (by decide) (zs2 _ (List.mem_of_getElem? (i := 22) rfl)) rfl rfl (by decide +kernel) (Nat.le_of_ble_eq_true rfl) (fun H locs hP hD hS => ?_)
  have hP : va_P D vwCl [(h0, .inr (2, [.ref h1, .ref q1, .int 0, .int 0, .int 0, .int 0, .int 0])), z_ia cy q1 160] H := hP
  have hD : va_D (z_An h0 s.heap.size) [(h0, .inr (2, [.ref h1, .ref q1, .int 0, .int 0, .int 0, .int 0, .int 0])), z_ia cy q1 160] := hD
  exact W.vret B.exec B.bytes hr (fun t ht hW => ⟨rfl, ⟨_, ⟨q1, rfl⟩, by rw [ht]; exact hP, hD⟩, hS.F ht⟩) hS.2.2 dX2_init_18
def mkX0 (cy : z_Cy) (h0 h1 q1 q2 q3 q4 : Nat) : va_W := [(h0, .inr (0, [.ref h1, .ref q1, .ref q2, .ref q3, .ref q4, .int 0, .int 0, .int 0, .int 0, .int 0])), z_ia cy q1 6, z_ia cy q2 6, z_ia cy q3 6, z_ia cy q4 6]
set_option maxHeartbeats 4000000 in
set_option maxRecDepth 100000 in
theorem nX0 (l : Launch) (D : va_G) (cy : z_Cy) (h0 sz : Nat) (h1 : Nat) : Met l yX0_init (z_wl mX0_init) { frames := 1, cells := 4, slots := 24, locals := 12 } (z_Pn D cy h0 sz 0 [.null, .null, .null, .null, .null, .int 0, .int 0, .int 0, .int 0, .int 0] [.ref h1]) (z_Qn D h0 sz (fun ws => ∃ q1 q2 q3 q4, ws = mkX0 cy h0 h1 q1 q2 q3 q4)) 4 24 (z_An h0 sz) := by
  refine Met.ofW (cc := cX0_init) (maxL := 2) (ret := none) (by decide) rfl ?_
  intro p e s m args below meth c s₁ B hml hv
  obtain ⟨rfl, hsz, hP, hK⟩ := hv
  have hts := atoms_spec (ws := z_wl mX0_init) B.pre
  have C0 : z_K0 RX0 cX0_init 2 p s m _ meth c D cy := ⟨B.exec, B.bytes, hml, findClass_of_methodNamed B.named, fun w hw => hts w (List.mem_cons_of_mem _ hw), hK, (name_of_methodNamed B.named B.method).1⟩
  have hr := B.returns
  have hlocks := B.notSynchronized
  subst hsz
  have hD : va_D (z_An h0 s.heap.size) [(h0, .inr (0, [.null, .null, .null, .null, .null, .int 0, .int 0, .int 0, .int 0, .int 0]))] := z_Dn
  have hA : ∀ q : Nat, s.heap.size ≤ q → z_An h0 s.heap.size q := fun q h => Or.inr h
  have hS : va_S (z_An h0 s.heap.size) s.heap s.heap [] := va_S.rf
  have hl := lv_entry ([.ref h0, .ref h1]) (n := 2) (Nat.le_of_ble_eq_true rfl)
  rw [lg_entry_eq]
  generalize (lg_sl ([.ref h0, .ref h1]) ++ List.replicate (2 - (lg_sl ([.ref h0, .ref h1])).length) Slot.unset).toArray = ls at hl ⊢
  have hl : lv_has ls 2 [(0, .ref h0), (1, .ref h1)] := hl
  refine z_mkO C0 dX0_init_0 (lv_at hl 0 rfl) dX0_init_1 (zs3 _ (List.mem_of_getElem? (i := 2) rfl)) (zs1 _ (List.mem_of_getElem? (i := 10) rfl)) (zs1 _ (List.mem_of_getElem? (i := 11) rfl)) hl.1 ⟨Nat.le_of_ble_eq_true rfl, Nat.le_of_ble_eq_true rfl⟩ ?_
  refine z_mkA (pc1 := 7) (ci := 0) (k := 1) (N' := 6) (T := TX0) (N := 10) (ty0 := tyX0) C0 hP hD hS hA dX0_init_4 (lv_at hl 0 rfl) (fun k => lv_bipush B.exec B.bytes dX0_init_5 rfl k) dX0_init_7 dX0_init_9 (zs2 _ (List.mem_of_getElem? (i := 13) rfl)) (by decide) (by decide) (by decide) (Nat.le_of_ble_eq_true rfl) (Nat.le_of_ble_eq_true rfl) rfl rfl inlX0 tyX0_ok nmX0 (by decide) (zs3 _ (List.mem_of_getElem? (i := 3) rfl)) rfl rfl (by decide +kernel) (Nat.le_of_ble_eq_true rfl) (fun q1 H locs hP hD hS => ?_)
  have hP : va_P D vwCl [(h0, .inr (0, [.null, .ref q1, .null, .null, .null, .int 0, .int 0, .int 0, .int 0, .int 0])), z_ia cy q1 6] H := hP
  have hD : va_D (z_An h0 s.heap.size) [(h0, .inr (0, [.null, .ref q1, .null, .null, .null, .int 0, .int 0, .int 0, .int 0, .int 0])), z_ia cy q1 6] := hD
  refine z_mkA (pc1 := 15) (ci := 0) (k := 2) (N' := 6) (T := TX0) (N := 10) (ty0 := tyX0) C0 hP hD hS hA dX0_init_12 (lv_at hl 0 rfl) (fun k => lv_bipush B.exec B.bytes dX0_init_13 rfl k) dX0_init_15 dX0_init_17 (zs2 _ (List.mem_of_getElem? (i := 13) rfl)) (by decide) (by decide) (by decide) (Nat.le_of_ble_eq_true rfl) (Nat.le_of_ble_eq_true rfl) rfl rfl inlX0 tyX0_ok nmX0 (by decide) (zs3 _ (List.mem_of_getElem? (i := 4) rfl)) rfl rfl (by decide +kernel) (Nat.le_of_ble_eq_true rfl) (fun q2 H locs hP hD hS => ?_)
  have hP : va_P D vwCl [(h0, .inr (0, [.null, .ref q1, .ref q2, .null, .null, .int 0, .int 0, .int 0, .int 0, .int 0])), z_ia cy q1 6, z_ia cy q2 6] H := hP
  have hD : va_D (z_An h0 s.heap.size) [(h0, .inr (0, [.null, .ref q1, .ref q2, .null, .null, .int 0, .int 0, .int 0, .int 0, .int 0])), z_ia cy q1 6, z_ia cy q2 6] := hD
  refine z_mkA (pc1 := 23) (ci := 0) (k := 3) (N' := 6) (T := TX0) (N := 10) (ty0 := tyX0) C0 hP hD hS hA dX0_init_20 (lv_at hl 0 rfl) (fun k => lv_bipush B.exec B.bytes dX0_init_21 rfl k) dX0_init_23 dX0_init_25 (zs2 _ (List.mem_of_getElem? (i := 13) rfl)) (by decide) (by decide) (by decide) (Nat.le_of_ble_eq_true rfl) (Nat.le_of_ble_eq_true rfl) rfl rfl inlX0 tyX0_ok nmX0 (by decide) (zs3 _ (List.mem_of_getElem? (i := 5) rfl)) rfl rfl (by decide +kernel) (Nat.le_of_ble_eq_true rfl) (fun q3 H locs hP hD hS => ?_)
  have hP : va_P D vwCl [(h0, .inr (0, [.null, .ref q1, .ref q2, .ref q3, .null, .int 0, .int 0, .int 0, .int 0, .int 0])), z_ia cy q1 6, z_ia cy q2 6, z_ia cy q3 6] H := hP
  have hD : va_D (z_An h0 s.heap.size) [(h0, .inr (0, [.null, .ref q1, .ref q2, .ref q3, .null, .int 0, .int 0, .int 0, .int 0, .int 0])), z_ia cy q1 6, z_ia cy q2 6, z_ia cy q3 6] := hD
  refine z_mkA (pc1 := 31) (ci := 0) (k := 4) (N' := 6) (T := TX0) (N := 10) (ty0 := tyX0) C0 hP hD hS hA dX0_init_28 (lv_at hl 0 rfl) (fun k => lv_bipush B.exec B.bytes dX0_init_29 rfl k) dX0_init_31 dX0_init_33 (zs2 _ (List.mem_of_getElem? (i := 13) rfl)) (by decide) (by decide) (by decide) (Nat.le_of_ble_eq_true rfl) (Nat.le_of_ble_eq_true rfl) rfl rfl inlX0 tyX0_ok nmX0 (by decide) (zs3 _ (List.mem_of_getElem? (i := 6) rfl)) rfl rfl (by decide +kernel) (Nat.le_of_ble_eq_true rfl) (fun q4 H locs hP hD hS => ?_)
  have hP : va_P D vwCl [(h0, .inr (0, [.null, .ref q1, .ref q2, .ref q3, .ref q4, .int 0, .int 0, .int 0, .int 0, .int 0])), z_ia cy q1 6, z_ia cy q2 6, z_ia cy q3 6, z_ia cy q4 6] H := hP
  have hD : va_D (z_An h0 s.heap.size) [(h0, .inr (0, [.null, .ref q1, .ref q2, .ref q3, .ref q4, .int 0, .int 0, .int 0, .int 0, .int 0])), z_ia cy q1 6, z_ia cy q2 6, z_ia cy q3 6, z_ia cy q4 6] := hD
  refine z_mkR (h1 := h1) (ci := 0) (k := 0) (T := TX0) (N := 10) (ty0 := tyX0) (C := "WallsOfPrisoners$Texts") C0 hP hD hS dX0_init_36 (lv_at hl 0 rfl) dX0_init_37 (lv_at hl 1 rfl) dX0_init_38 rfl rfl inlX0 tyX0_ok nmX0 (by decide) (zs3 _ (List.mem_of_getElem? (i := 7) rfl)) rfl rfl (by decide +kernel) (Nat.le_of_ble_eq_true rfl) (fun H locs hP hD hS => ?_)
  have hP : va_P D vwCl [(h0, .inr (0, [.ref h1, .ref q1, .ref q2, .ref q3, .ref q4, .int 0, .int 0, .int 0, .int 0, .int 0])), z_ia cy q1 6, z_ia cy q2 6, z_ia cy q3 6, z_ia cy q4 6] H := hP
  have hD : va_D (z_An h0 s.heap.size) [(h0, .inr (0, [.ref h1, .ref q1, .ref q2, .ref q3, .ref q4, .int 0, .int 0, .int 0, .int 0, .int 0])), z_ia cy q1 6, z_ia cy q2 6, z_ia cy q3 6, z_ia cy q4 6] := hD
  exact W.vret B.exec B.bytes hr (fun t ht hW => ⟨rfl, ⟨_, ⟨q1, q2, q3, q4, rfl⟩, by rw [ht]; exact hP, hD⟩, hS.F ht⟩) hS.2.2 dX0_init_41
def mkX3 (cy : z_Cy) (h0 q1 : Nat) : va_W := [(h0, .inr (3, [.ref q1, .int (-1), .int 0])), z_ia cy q1 40]
set_option maxHeartbeats 4000000 in
set_option maxRecDepth 100000 in
theorem nX3 (l : Launch) (D : va_G) (cy : z_Cy) (h0 sz : Nat) : Met l yX3_init (z_wl mX3_init) { frames := 1, cells := 1, slots := 40, locals := 12 } (z_Pn D cy h0 sz 3 [.null, .int 0, .int 0] []) (z_Qn D h0 sz (fun ws => ∃ q1, ws = mkX3 cy h0 q1)) 1 40 (z_An h0 sz) := by
  refine Met.ofW (cc := cX3_init) (maxL := 1) (ret := none) (by decide) rfl ?_
  intro p e s m args below meth c s₁ B hml hv
  obtain ⟨rfl, hsz, hP, hK⟩ := hv
  have hts := atoms_spec (ws := z_wl mX3_init) B.pre
  have C0 : z_K0 RX3 cX3_init 1 p s m _ meth c D cy := ⟨B.exec, B.bytes, hml, findClass_of_methodNamed B.named, fun w hw => hts w (List.mem_cons_of_mem _ hw), hK, (name_of_methodNamed B.named B.method).1⟩
  have hr := B.returns
  have hlocks := B.notSynchronized
  subst hsz
  have hD : va_D (z_An h0 s.heap.size) [(h0, .inr (3, [.null, .int 0, .int 0]))] := z_Dn
  have hA : ∀ q : Nat, s.heap.size ≤ q → z_An h0 s.heap.size q := fun q h => Or.inr h
  have hS : va_S (z_An h0 s.heap.size) s.heap s.heap [] := va_S.rf
  have hl := lv_entry ([.ref h0]) (n := 1) (Nat.le_of_ble_eq_true rfl)
  rw [lg_entry_eq]
  generalize (lg_sl ([.ref h0]) ++ List.replicate (1 - (lg_sl ([.ref h0])).length) Slot.unset).toArray = ls at hl ⊢
  have hl : lv_has ls 1 [(0, .ref h0)] := hl
  refine z_mkO C0 dX3_init_0 (lv_at hl 0 rfl) dX3_init_1 (zs3 _ (List.mem_of_getElem? (i := 17) rfl)) (zs1 _ (List.mem_of_getElem? (i := 10) rfl)) (zs1 _ (List.mem_of_getElem? (i := 11) rfl)) hl.1 ⟨Nat.le_of_ble_eq_true rfl, Nat.le_of_ble_eq_true rfl⟩ ?_
  refine z_mkA (pc1 := 7) (ci := 3) (k := 0) (N' := 40) (T := TX3) (N := 3) (ty0 := tyX3) C0 hP hD hS hA dX3_init_4 (lv_at hl 0 rfl) (fun k => lv_bipush B.exec B.bytes dX3_init_5 rfl k) dX3_init_7 dX3_init_9 (zs2 _ (List.mem_of_getElem? (i := 13) rfl)) (by decide) (by decide) (by decide) (Nat.le_of_ble_eq_true rfl) (Nat.le_of_ble_eq_true rfl) rfl rfl inlX3 tyX3_ok nmX3 (by decide) (zs3 _ (List.mem_of_getElem? (i := 18) rfl)) rfl rfl (by decide +kernel) (Nat.le_of_ble_eq_true rfl) (fun q1 H locs hP hD hS => ?_)
  have hP : va_P D vwCl [(h0, .inr (3, [.ref q1, .int 0, .int 0])), z_ia cy q1 40] H := hP
  have hD : va_D (z_An h0 s.heap.size) [(h0, .inr (3, [.ref q1, .int 0, .int 0])), z_ia cy q1 40] := hD
  refine z_mkI (pc1 := 14) (n := -1) (ci := 3) (k := 1) (T := TX3) (N := 3) (ty0 := tyX3) C0 hP hD hS dX3_init_12 (lv_at hl 0 rfl) (fun k => lv_iconst B.exec B.bytes dX3_init_13 rfl k) dX3_init_14 rfl rfl inlX3 tyX3_ok nmX3 (by decide) (zs3 _ (List.mem_of_getElem? (i := 19) rfl)) rfl rfl (by decide +kernel) (Nat.le_of_ble_eq_true rfl) (fun H locs hP hD hS => ?_)
  have hP : va_P D vwCl [(h0, .inr (3, [.ref q1, .int (-1), .int 0])), z_ia cy q1 40] H := hP
  have hD : va_D (z_An h0 s.heap.size) [(h0, .inr (3, [.ref q1, .int (-1), .int 0])), z_ia cy q1 40] := hD
  exact W.vret B.exec B.bytes hr (fun t ht hW => ⟨rfl, ⟨_, ⟨q1, rfl⟩, by rw [ht]; exact hP, hD⟩, hS.F ht⟩) hS.2.2 dX3_init_17
def mkX1 (cy : z_Cy) (h0 q1 q2 q3 q4 : Nat) : va_W := [(h0, .inr (1, [.ref q1, .ref q2, .ref q3, .ref q4, .int 0, .int 0])), z_ia cy q1 36, z_ia cy q2 6, z_ia cy q3 6, z_ia cy q4 6]
set_option maxHeartbeats 4000000 in
set_option maxRecDepth 100000 in
theorem nX1 (l : Launch) (D : va_G) (cy : z_Cy) (h0 sz : Nat) : Met l yX1_init (z_wl mX1_init) { frames := 1, cells := 4, slots := 54, locals := 12 } (z_Pn D cy h0 sz 1 [.null, .null, .null, .null, .int 0, .int 0] []) (z_Qn D h0 sz (fun ws => ∃ q1 q2 q3 q4, ws = mkX1 cy h0 q1 q2 q3 q4)) 4 54 (z_An h0 sz) := by
  refine Met.ofW (cc := cX1_init) (maxL := 1) (ret := none) (by decide) rfl ?_
  intro p e s m args below meth c s₁ B hml hv
  obtain ⟨rfl, hsz, hP, hK⟩ := hv
  have hts := atoms_spec (ws := z_wl mX1_init) B.pre
  have C0 : z_K0 RX1 cX1_init 1 p s m _ meth c D cy := ⟨B.exec, B.bytes, hml, findClass_of_methodNamed B.named, fun w hw => hts w (List.mem_cons_of_mem _ hw), hK, (name_of_methodNamed B.named B.method).1⟩
  have hr := B.returns
  have hlocks := B.notSynchronized
  subst hsz
  have hD : va_D (z_An h0 s.heap.size) [(h0, .inr (1, [.null, .null, .null, .null, .int 0, .int 0]))] := z_Dn
  have hA : ∀ q : Nat, s.heap.size ≤ q → z_An h0 s.heap.size q := fun q h => Or.inr h
  have hS : va_S (z_An h0 s.heap.size) s.heap s.heap [] := va_S.rf
  have hl := lv_entry ([.ref h0]) (n := 1) (Nat.le_of_ble_eq_true rfl)
  rw [lg_entry_eq]
  generalize (lg_sl ([.ref h0]) ++ List.replicate (1 - (lg_sl ([.ref h0])).length) Slot.unset).toArray = ls at hl ⊢
  have hl : lv_has ls 1 [(0, .ref h0)] := hl
  refine z_mkO C0 dX1_init_0 (lv_at hl 0 rfl) dX1_init_1 (zs3 _ (List.mem_of_getElem? (i := 10) rfl)) (zs1 _ (List.mem_of_getElem? (i := 10) rfl)) (zs1 _ (List.mem_of_getElem? (i := 11) rfl)) hl.1 ⟨Nat.le_of_ble_eq_true rfl, Nat.le_of_ble_eq_true rfl⟩ ?_
  refine z_mkA (pc1 := 7) (ci := 1) (k := 0) (N' := 36) (T := TX1) (N := 6) (ty0 := tyX1) C0 hP hD hS hA dX1_init_4 (lv_at hl 0 rfl) (fun k => lv_bipush B.exec B.bytes dX1_init_5 rfl k) dX1_init_7 dX1_init_9 (zs2 _ (List.mem_of_getElem? (i := 13) rfl)) (by decide) (by decide) (by decide) (Nat.le_of_ble_eq_true rfl) (Nat.le_of_ble_eq_true rfl) rfl rfl inlX1 tyX1_ok nmX1 (by decide) (zs3 _ (List.mem_of_getElem? (i := 11) rfl)) rfl rfl (by decide +kernel) (Nat.le_of_ble_eq_true rfl) (fun q1 H locs hP hD hS => ?_)
  have hP : va_P D vwCl [(h0, .inr (1, [.ref q1, .null, .null, .null, .int 0, .int 0])), z_ia cy q1 36] H := hP
  have hD : va_D (z_An h0 s.heap.size) [(h0, .inr (1, [.ref q1, .null, .null, .null, .int 0, .int 0])), z_ia cy q1 36] := hD
  refine z_mkA (pc1 := 15) (ci := 1) (k := 1) (N' := 6) (T := TX1) (N := 6) (ty0 := tyX1) C0 hP hD hS hA dX1_init_12 (lv_at hl 0 rfl) (fun k => lv_bipush B.exec B.bytes dX1_init_13 rfl k) dX1_init_15 dX1_init_17 (zs2 _ (List.mem_of_getElem? (i := 13) rfl)) (by decide) (by decide) (by decide) (Nat.le_of_ble_eq_true rfl) (Nat.le_of_ble_eq_true rfl) rfl rfl inlX1 tyX1_ok nmX1 (by decide) (zs3 _ (List.mem_of_getElem? (i := 12) rfl)) rfl rfl (by decide +kernel) (Nat.le_of_ble_eq_true rfl) (fun q2 H locs hP hD hS => ?_)
  have hP : va_P D vwCl [(h0, .inr (1, [.ref q1, .ref q2, .null, .null, .int 0, .int 0])), z_ia cy q1 36, z_ia cy q2 6] H := hP
  have hD : va_D (z_An h0 s.heap.size) [(h0, .inr (1, [.ref q1, .ref q2, .null, .null, .int 0, .int 0])), z_ia cy q1 36, z_ia cy q2 6] := hD
  refine z_mkA (pc1 := 23) (ci := 1) (k := 2) (N' := 6) (T := TX1) (N := 6) (ty0 := tyX1) C0 hP hD hS hA dX1_init_20 (lv_at hl 0 rfl) (fun k => lv_bipush B.exec B.bytes dX1_init_21 rfl k) dX1_init_23 dX1_init_25 (zs2 _ (List.mem_of_getElem? (i := 13) rfl)) (by decide) (by decide) (by decide) (Nat.le_of_ble_eq_true rfl) (Nat.le_of_ble_eq_true rfl) rfl rfl inlX1 tyX1_ok nmX1 (by decide) (zs3 _ (List.mem_of_getElem? (i := 13) rfl)) rfl rfl (by decide +kernel) (Nat.le_of_ble_eq_true rfl) (fun q3 H locs hP hD hS => ?_)
  have hP : va_P D vwCl [(h0, .inr (1, [.ref q1, .ref q2, .ref q3, .null, .int 0, .int 0])), z_ia cy q1 36, z_ia cy q2 6, z_ia cy q3 6] H := hP
  have hD : va_D (z_An h0 s.heap.size) [(h0, .inr (1, [.ref q1, .ref q2, .ref q3, .null, .int 0, .int 0])), z_ia cy q1 36, z_ia cy q2 6, z_ia cy q3 6] := hD
  refine z_mkA (pc1 := 31) (ci := 1) (k := 3) (N' := 6) (T := TX1) (N := 6) (ty0 := tyX1) C0 hP hD hS hA dX1_init_28 (lv_at hl 0 rfl) (fun k => lv_bipush B.exec B.bytes dX1_init_29 rfl k) dX1_init_31 dX1_init_33 (zs2 _ (List.mem_of_getElem? (i := 13) rfl)) (by decide) (by decide) (by decide) (Nat.le_of_ble_eq_true rfl) (Nat.le_of_ble_eq_true rfl) rfl rfl inlX1 tyX1_ok nmX1 (by decide) (zs3 _ (List.mem_of_getElem? (i := 14) rfl)) rfl rfl (by decide +kernel) (Nat.le_of_ble_eq_true rfl) (fun q4 H locs hP hD hS => ?_)
  have hP : va_P D vwCl [(h0, .inr (1, [.ref q1, .ref q2, .ref q3, .ref q4, .int 0, .int 0])), z_ia cy q1 36, z_ia cy q2 6, z_ia cy q3 6, z_ia cy q4 6] H := hP
  have hD : va_D (z_An h0 s.heap.size) [(h0, .inr (1, [.ref q1, .ref q2, .ref q3, .ref q4, .int 0, .int 0])), z_ia cy q1 36, z_ia cy q2 6, z_ia cy q3 6, z_ia cy q4 6] := hD
  exact W.vret B.exec B.bytes hr (fun t ht hW => ⟨rfl, ⟨_, ⟨q1, q2, q3, q4, rfl⟩, by rw [ht]; exact hP, hD⟩, hS.F ht⟩) hS.2.2 dX1_init_36
