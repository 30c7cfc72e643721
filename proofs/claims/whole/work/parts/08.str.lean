/-! String constants: length() and charAt() -/
abbrev z_str (k : Nat) : Prop := 1000 ≤ k ∧ k < 1013
def z_slenN (k : Nat) : Nat := z_len.getD (k - 1000) 0
def z_slen (k : Nat) : Int32 := Int32.ofNat (z_slenN k)
def z_sch (k : Nat) (i : Int32) : Int32 := (z_byt.getD (k - 1000) []).getD (z_x i) 0
abbrev z_strI (k : Nat) (i : Int32) : Prop := z_str k ∧ z_in i (z_slenN k)
theorem z_getD_mem (l : List Int32) (q : Nat) (h : q < l.length) : l.getD q 0 ∈ l := by
  rw [List.getD_eq_getElem?_getD, List.getElem?_eq_getElem h]
  exact List.getElem_mem h
theorem z_ascii : ∀ j, j < 13 → (∀ b ∈ z_byt.getD j [], (b &&& 255) = b) ∧ z_len.getD j 0 = (z_byt.getD j []).length := by decide +kernel
abbrev mJ0_length : z_M := (RJ0, yJ0_length_8abf5, cJ0_length_8abf5, 1, some .int)
abbrev mJ0_coder : z_M := (RJ0, yJ0_coder_7d493, cJ0_coder_7d493, 1, some .byte)
abbrev mJ0_charAt : z_M := (RJ0, yJ0_charAt_5068e, cJ0_charAt_5068e, 2, some .char)
abbrev mJ0_isLatin1 : z_M := (RJ0, yJ0_isLatin1_aae02, cJ0_isLatin1_aae02, 1, some .boolean)
abbrev mJ1_charAt : z_M := (RJ1, yJ1_charAt_3b067, cJ1_charAt_3b067, 2, some .char)
abbrev mJ0_checkIndex : z_M := (RJ0, yJ0_checkIndex_df160, cJ0_checkIndex_df160, 2, none)
abbrev mJ3_checkIndex : z_M := (RJ3, yJ3_checkIndex_8e157, cJ3_checkIndex_8e157, 3, some .int)
section ZJ
variable {α : Type} {Y : z_Lay} {M : z_M} {d : Nat} {mk : α → Option z_V} {pc : Nat} {lv : List (Option z_V)} {st : List z_V} {σ : z_Mem} {o : Option (α × z_Mem)}
theorem z_i2c {x : Int32} (hd : decode M.2.2.1 pc = .ok (.i2c, 1)) (k : z_Go Y M d mk (pc + 1) lv (zI ((x.toUInt32 % 65536).toInt32) :: st) σ o) : z_Go Y M d mk pc lv (zI x :: st) σ o := by
  intro r σ' ho p l e s m args below meth c D ad cy F H locs ls hP hS hl
  obtain ⟨hx, hb, hr, hml, hown, hts, hlk, hK, hij, hE⟩ := id F
  exact lv_i2c hx hb hd rfl (k r σ' ho p l e s m args below meth c D ad cy F H locs ls hP hS hl)
theorem z_jcs {i : Nat} (hd : decode M.2.2.1 pc = .ok (.getstatic i, 3)) (hw : Cond.fieldLink M.1 i "java/lang/String" "COMPACT_STRINGS" "Z" ∈ wsL_law) (kk : z_Go Y M d mk (pc + 3) lv (zI 1 :: st) σ o) : z_Go Y M d mk pc lv st σ o := by
  intro r σ' ho p l e s m args below meth c D ad cy F H locs ls hP hS hl
  obtain ⟨hx, hb, hr, hml, hown, hts, hlk, hK, hij, hE⟩ := id F
  exact va_gets hx hb hE.2.2.2.2.2.2.1 hS hown (hts _ hw) (fun x h => h) hd (kk r σ' ho p l e s m args below meth c D ad cy F H locs ls hP hS hl)
theorem z_jcod {i j : Nat} (hj : j < 13) (hd : decode M.2.2.1 pc = .ok (.getfield i, 3)) (hw : Cond.fieldLink M.1 i "java/lang/String" "coder" "B" ∈ wsL_law) (kk : z_Go Y M d mk (pc + 3) lv (zI 0 :: st) σ o) : z_Go Y M d mk pc lv (zR (1000 + j) :: st) σ o := by
  intro r σ' ho p l e s m args below meth c D ad cy F H locs ls hP hS hl
  obtain ⟨hx, hb, hr, hml, hown, hts, hlk, hK, hij, hE⟩ := id F
  exact vk_getf hx hb (hE.2.2.2.2.2.1.1 j hj).2.1 hS hown (hts _ hw) (fun x h => h) hd (kk r σ' ho p l e s m args below meth c D ad cy F H locs ls hP hS hl)
theorem z_jval {i j : Nat} (hj : j < 13) (hd : decode M.2.2.1 pc = .ok (.getfield i, 3)) (hw : Cond.fieldLink M.1 i "java/lang/String" "value" "[B" ∈ wsL_law) (kk : z_Go Y M d mk (pc + 3) lv (zR (1100 + j) :: st) σ o) : z_Go Y M d mk pc lv (zR (1000 + j) :: st) σ o := by
  intro r σ' ho p l e s m args below meth c D ad cy F H locs ls hP hS hl
  obtain ⟨hx, hb, hr, hml, hown, hts, hlk, hK, hij, hE⟩ := id F
  exact vk_getf hx hb (hE.2.2.2.2.2.1.1 j hj).2.2.1 hS hown (hts _ hw) (fun x h => h) hd (kk r σ' ho p l e s m args below meth c D ad cy F H locs ls hP hS hl)
theorem z_jlen {j : Nat} (hj : j < 13) (hd : decode M.2.2.1 pc = .ok (.arraylength, 1)) (kk : z_Go Y M d mk (pc + 1) lv (zI (Int32.ofNat (z_len.getD j 0)) :: st) σ o) : z_Go Y M d mk pc lv (zR (1100 + j) :: st) σ o := by
  intro r σ' ho p l e s m args below meth c D ad cy F H locs ls hP hS hl
  obtain ⟨hx, hb, hr, hml, hown, hts, hlk, hK, hij, hE⟩ := id F
  exact va_tlen hx hb (hE.2.2.2.2.2.1.1 j hj).2.2.2 hS rfl hd (kk r σ' ho p l e s m args below meth c D ad cy F H locs ls hP hS hl)
theorem z_jld {j : Nat} {i : Int32} (hj : j < 13) (hg : z_in i (z_len.getD j 0)) (hd : decode M.2.2.1 pc = .ok (.baload, 1)) (kk : z_Go Y M d mk (pc + 1) lv (zI ((z_byt.getD j []).getD (z_x i) 0) :: st) σ o) : z_Go Y M d mk pc lv (zI i :: zR (1100 + j) :: st) σ o := by
  intro r σ' ho p l e s m args below meth c D ad cy F H locs ls hP hS hl
  obtain ⟨hx, hb, hr, hml, hown, hts, hlk, hK, hij, hE⟩ := id F
  exact va_tb hx hb (hE.2.2.2.2.2.1.1 j hj).2.2.2 hS (z_in_vp hg) rfl hd (kk r σ' ho p l e s m args below meth c D ad cy F H locs ls hP hS hl)
end ZJ
theorem kJ0_coder {Y : z_Lay} {σ : z_Mem} {j : Nat} (hj : j < 13) (D : Nat) : z_Call Y mJ0_coder D z_i [zR (1000 + j)] σ (some ((0 : Int32), σ)) := by
  refine z_entry (lv := [some (zR (1000 + j))]) (by decide) rfl (Nat.le_of_ble_eq_true rfl) rfl ?_
  refine z_jcs (pc := 0) dJ0_coder_7d493_0 (zs4 _ (List.mem_of_getElem? (i := 6) rfl)) ?_
  refine z_if_eq_N (tgt := 13) (pc := 3) dJ0_coder_7d493_3 (by decide) (by decide) ?_
  refine z_aload_n (pc := 6) dJ0_coder_7d493_6 rfl rfl ?_
  refine z_jcod (pc := 7) hj dJ0_coder_7d493_7 (zs4 _ (List.mem_of_getElem? (i := 7) rfl)) ?_
  refine z_goto (tgt := 14) (pc := 10) dJ0_coder_7d493_10 (by decide) ?_
  exact z_iret (pc := 14) dJ0_coder_7d493_14 rfl rfl
theorem kJ0_isLatin1 {Y : z_Lay} {σ : z_Mem} {j : Nat} (hj : j < 13) (D : Nat) : z_Call Y mJ0_isLatin1 D z_i [zR (1000 + j)] σ (some ((1 : Int32), σ)) := by
  refine z_entry (lv := [some (zR (1000 + j))]) (by decide) rfl (Nat.le_of_ble_eq_true rfl) rfl ?_
  refine z_jcs (pc := 0) dJ0_isLatin1_aae02_0 (zs4 _ (List.mem_of_getElem? (i := 6) rfl)) ?_
  refine z_if_eq_N (tgt := 17) (pc := 3) dJ0_isLatin1_aae02_3 (by decide) (by decide) ?_
  refine z_aload_n (pc := 6) dJ0_isLatin1_aae02_6 rfl rfl ?_
  refine z_jcod (pc := 7) hj dJ0_isLatin1_aae02_7 (zs4 _ (List.mem_of_getElem? (i := 7) rfl)) ?_
  refine z_if_ne_N (tgt := 17) (pc := 10) dJ0_isLatin1_aae02_10 (by decide) rfl ?_
  refine z_iconst (v := 1) (pc := 13) dJ0_isLatin1_aae02_13 (by decide) ?_
  refine z_goto (tgt := 18) (pc := 14) dJ0_isLatin1_aae02_14 (by decide) ?_
  exact z_iret (pc := 18) dJ0_isLatin1_aae02_18 rfl rfl
theorem kJ0_length {Y : z_Lay} {σ : z_Mem} {j : Nat} (hj : j < 13) (D : Nat) : z_Call Y mJ0_length (D + 1) z_i [zR (1000 + j)] σ (some (Int32.ofNat (z_len.getD j 0), σ)) := by
  have e : some (Int32.ofNat (z_len.getD j 0), σ) = z_bd (some ((0 : Int32), σ)) (fun r s1 => some ((Int32.ofNat (z_len.getD j 0)) >>> (r &&& 31), s1)) := by
    show _ = some (_ >>> ((0 : Int32) &&& 31), σ)
    rw [sb_shr0]
  rw [e]
  refine z_entry (lv := [some (zR (1000 + j))]) (by decide) rfl (Nat.le_of_ble_eq_true rfl) rfl ?_
  refine z_aload_n (pc := 0) dJ0_length_8abf5_0 rfl rfl ?_
  refine z_jval (pc := 1) hj dJ0_length_8abf5_1 (zs4 _ (List.mem_of_getElem? (i := 1) rfl)) ?_
  refine z_jlen (pc := 4) hj dJ0_length_8abf5_4 ?_
  refine z_aload_n (pc := 5) dJ0_length_8abf5_5 rfl rfl ?_
  refine z_invT (pc := 6) (M' := mJ0_coder) (n := 0) (av := []) dJ0_length_8abf5_6 rfl hj ⟨(zs4 _ (List.mem_of_getElem? (i := 2) rfl)), (zs3 _ (List.mem_of_getElem? (i := 23) rfl)), (zs4 _ (List.mem_of_getElem? (i := 5) rfl))⟩ rfl (zs4 _ (List.mem_of_getElem? (i := 3) rfl)) (zs4 _ (List.mem_of_getElem? (i := 4) rfl)) (by decide +kernel) rfl (by decide) (Nat.le_of_ble_eq_true rfl) (kJ0_coder hj D) (fun r s1 => ?_)
  refine z_ishr (pc := 9) dJ0_length_8abf5_9 ?_
  exact z_iret (pc := 10) dJ0_length_8abf5_10 rfl rfl
/-- Preconditions.checkIndex, where the place is inside -/
theorem kJ3_checkIndex (l : Launch) (D : Nat) (v : Value) (hv : v = .null ∨ ∃ t, v = .ref t) (i n : Int32) (h0 : ¬ i < 0) (h1 : i < n) : Met l mJ3_checkIndex.2.1 (z_wl mJ3_checkIndex) (z_rm D) (fun a _ => a = #[.int i, .int n, v]) (fun _ st oc t => oc = .returned (some (.int i)) ∧ t.heap = st.heap) 0 0 (fun _ => False) := by
  refine Met.ofW (cc := cJ3_checkIndex_8e157) (maxL := 3) (ret := some .int) (by decide) rfl ?_
  intro p e s m args below meth c s₁ B hml hv0
  subst hv0
  have hx := B.exec
  have hb := B.bytes
  have hr := B.returns
  have hlocks := B.notSynchronized
  have hl := lv_entry ([.int i, .int n, v]) (n := 3) (by rcases hv with rfl | ⟨t, rfl⟩ <;> exact Nat.le_of_ble_eq_true rfl)
  rw [show (#[Value.int i, Value.int n, v] : Array Value) = ([.int i, .int n, v] : List Value).toArray from rfl, lg_entry_eq]
  generalize (lg_sl ([.int i, .int n, v]) ++ List.replicate (3 - (lg_sl ([.int i, .int n, v])).length) Slot.unset).toArray = ls at hl ⊢
  have hl : lv_has ls 3 [(0, .int i), (1, .int n), (2, v)] := hl
  refine lv_iload_n hx hb dJ3_checkIndex_8e157_0 rfl (lv_at hl 0 rfl) ?_
  refine lv_if_lt (tgt := 9) hx hb dJ3_checkIndex_8e157_1 (by decide) (fun q => absurd q h0) (fun _ => ?_)
  refine lv_iload_n hx hb dJ3_checkIndex_8e157_4 rfl (lv_at hl 0 rfl) ?_
  refine lv_iload_n hx hb dJ3_checkIndex_8e157_5 rfl (lv_at hl 1 rfl) ?_
  refine lv_icmp_lt (tgt := 16) hx hb dJ3_checkIndex_8e157_6 (by decide) (fun _ => ?_) (fun q => absurd h1 q)
  refine lv_iload_n hx hb dJ3_checkIndex_8e157_16 rfl (lv_at hl 0 rfl) ?_
  exact W.iret (v := i) hx hb hr (fun t ht hW => ⟨rfl, ht⟩) (fun q h => by cases h) dJ3_checkIndex_8e157_17
theorem kJ0_checkIndex {Y : z_Lay} {σ : z_Mem} {i n : Int32} (h0 : ¬ i < 0) (h1 : i < n) (D : Nat) : z_Call Y mJ0_checkIndex (D + 1) z_u [zI i, zI n] σ (some ((), σ)) := by
  refine z_entry (lv := [some (zI i), some (zI n)]) (by decide) rfl (Nat.le_of_ble_eq_true rfl) rfl ?_
  refine z_iload_n (pc := 0) dJ0_checkIndex_df160_0 rfl rfl ?_
  refine z_iload_n (pc := 1) dJ0_checkIndex_df160_1 rfl rfl ?_
  have K : z_Go Y mJ0_checkIndex (D + 1) z_u 8 [some (zI i), some (zI n)] [zI i] σ (some ((), σ)) := by
    refine z_pop (pc := 8) dJ0_checkIndex_df160_8 rfl ?_
    exact z_vret (pc := 9) dJ0_checkIndex_df160_9 rfl
  intro r σ' ho p l e s m args below meth c Dg ad cy F H locs ls hP hS hl
  obtain ⟨hx, hb, hr, hml, hown, hts, hlk, hK, hij, hE⟩ := id F
  have main : ∀ (v : Value), (v = .null ∨ ∃ t, v = .ref t) → va_Z "jdk/internal/util/Preconditions" "SIOOBE_FORMATTER" "Ljava/util/function/BiFunction;" v (z_A ad Y.length) s s.heap → W p l e (z_rm (D + 1)) s m args below meth c H locs 0 0 (MQ below (z_Q Y Dg ad cy ((z_u r).map (z_v ad)) σ') args s 0 0 (z_A ad Y.length)) (F0 m 2 ls [.int n, .int i]) := by
    intro v hv hZ
    refine va_gets (v := v) hx hb hZ hS hown (hts _ (zs4 _ (List.mem_of_getElem? (i := 23) rfl))) (fun x h => h) dJ0_checkIndex_df160_2 ?_
    have cb : CallB (z_rm (D + 1)) s args RJ0 1059 mJ3_checkIndex.2.1 mJ3_checkIndex.2.2.1 3 (some .int) (z_wl mJ3_checkIndex) (z_rm D) 0 0 3 := callB_of 3 hts (z_good (M' := mJ3_checkIndex) (zs5 _ (List.mem_of_getElem? (i := 3) rfl))) rfl rfl rfl (hts _ (zs5 _ (List.mem_of_getElem? (i := 2) rfl))) (hts _ (zs5 _ (List.mem_of_getElem? (i := 0) rfl))) (by decide +kernel) ⟨Nat.le_refl _, by show 8 + (3 + 11) + 32 * D ≤ 32 * (D + 1); omega⟩
    have hrun := va_runS (H := H) (locs := locs) (cells := 0) (slots := 0) (below := below) (meth := meth) (g := F0 m 5 ls [v, .int n, .int i]) (As := [.int i, .int n, v]) (rest := []) (R := z_rm (D + 1)) (p := p) (e := e) ⟨hx, hb, hml, hown, hts⟩ (kJ3_checkIndex l D v hv i n h0 h1) ⟨cb, hts _ (zs5 _ (List.mem_of_getElem? (i := 1) rfl))⟩ ⟨fun _ _ _ _ q => q, fun U hU hW => rfl⟩ rfl rfl hl.1 rfl (Nat.le_of_ble_eq_true rfl) dJ0_checkIndex_df160_5 ⟨Nat.le_refl _, Nat.le_refl _⟩
    intro T hT X
    obtain ⟨w, st₀, t, T', L, q0, X', hL, e1, e2, ⟨hw, hh⟩, st⟩ := hrun T hT X
    cases hw
    obtain ⟨t2, a1, b1⟩ := K r σ' ho p l e s m args below meth c Dg ad cy F H (locs ++ L) ls hP ⟨hS.1, hS.2.1, fun q hq => by
      rcases List.mem_append.mp hq with h | h
      · exact hS.2.2 q h
      · exact (hL q h).elim⟩ hl T' (by rw [e1, hh, q0]) X'
    exact ⟨t2, st t2 a1, b1⟩
  rcases hE.2.2.2.2.2.2.2 with hZ | ⟨t, hZ⟩
  · exact main .null (Or.inl rfl) hZ
  · exact main (.ref t) (Or.inr ⟨t, rfl⟩) hZ
theorem kJ1_charAt {Y : z_Lay} {σ : z_Mem} {j : Nat} {i : Int32} (hj : j < 13) (hi : z_in i (z_len.getD j 0)) (D : Nat) : z_Call Y mJ1_charAt (D + 2) z_i [zR (1100 + j), zI i] σ (some ((((z_byt.getD j []).getD (z_x i) 0 &&& 255).toUInt32 % 65536).toInt32, σ)) := by
  have hL : z_len.getD j 0 < 2 ^ 31 := by
    have : ∀ j, j < 13 → z_len.getD j 0 < 2 ^ 31 := by decide +kernel
    exact this j hj
  have h0 : ¬ i < 0 := by
    rw [Int32.lt_iff_toInt_lt]
    have := hi.1
    simp
    omega
  have h1 : i < Int32.ofNat (z_len.getD j 0) := by
    have e : (Int32.ofNat (z_len.getD j 0)).toInt = (z_len.getD j 0 : Int) := nI_toInt hL
    rw [Int32.lt_iff_toInt_lt, e]
    exact hi.2
  have e : some ((((z_byt.getD j []).getD (z_x i) 0 &&& 255).toUInt32 % 65536).toInt32, σ) = z_bd (some ((), σ)) (fun _ s1 => some ((((z_byt.getD j []).getD (z_x i) 0 &&& 255).toUInt32 % 65536).toInt32, s1)) := rfl
  rw [e]
  refine z_entry (lv := [some (zR (1100 + j)), some (zI i)]) (by decide) rfl (Nat.le_of_ble_eq_true rfl) rfl ?_
  refine z_iload_n (pc := 0) dJ1_charAt_3b067_0 rfl rfl ?_
  refine z_aload_n (pc := 1) dJ1_charAt_3b067_1 rfl rfl ?_
  refine z_jlen (pc := 2) hj dJ1_charAt_3b067_2 ?_
  refine z_invS (pc := 3) (M' := mJ0_checkIndex) (mk' := z_u) (n := 2) (st := []) (av := [zI i, zI (Int32.ofNat (z_len.getD j 0))]) dJ1_charAt_3b067_3 rfl ⟨(zs4 _ (List.mem_of_getElem? (i := 20) rfl)), (zs3 _ (List.mem_of_getElem? (i := 23) rfl)), (zs4 _ (List.mem_of_getElem? (i := 22) rfl))⟩ (zs4 _ (List.mem_of_getElem? (i := 21) rfl)) (by decide +kernel) rfl (by decide) (Nat.le_of_ble_eq_true rfl) (kJ0_checkIndex h0 h1 D) (fun r s1 => ?_)
  refine z_aload_n (pc := 6) dJ1_charAt_3b067_6 rfl rfl ?_
  refine z_iload_n (pc := 7) dJ1_charAt_3b067_7 rfl rfl ?_
  refine z_jld (pc := 8) hj hi dJ1_charAt_3b067_8 ?_
  refine z_sipush (v := 255) (pc := 9) dJ1_charAt_3b067_9 (by decide) ?_
  refine z_iand (pc := 12) dJ1_charAt_3b067_12 ?_
  refine z_i2c (pc := 13) dJ1_charAt_3b067_13 ?_
  exact z_iret (pc := 14) dJ1_charAt_3b067_14 rfl (by rw [sc_c2]; exact sc_nar _)
theorem kJ0_charAt {Y : z_Lay} {σ : z_Mem} {j : Nat} {i : Int32} (hj : j < 13) (hi : z_in i (z_len.getD j 0)) (D : Nat) : z_Call Y mJ0_charAt (D + 3) z_i [zR (1000 + j), zI i] σ (some ((((z_byt.getD j []).getD (z_x i) 0 &&& 255).toUInt32 % 65536).toInt32, σ)) := by
  generalize hch : (((z_byt.getD j []).getD (z_x i) 0 &&& 255).toUInt32 % 65536).toInt32 = ch
  have hnar : narrow .char (.int ch) = .int ch := by rw [← hch, sc_c2]; exact sc_nar _
  have hJ := fun (s1 : z_Mem) => kJ1_charAt (Y := Y) (σ := s1) hj hi D
  rw [hch] at hJ
  have e : some (ch, σ) = z_bd (some ((1 : Int32), σ)) (fun r s1 => if r = 0 then none else z_bd (some (ch, s1)) (fun r2 s2 => z_gd (r2 = ch) (some (r2, s2)))) := by
    simp [z_bd, z_gd]
  rw [e]
  refine z_entry (lv := [some (zR (1000 + j)), some (zI i)]) (by decide) rfl (Nat.le_of_ble_eq_true rfl) rfl ?_
  refine z_aload_n (pc := 0) dJ0_charAt_5068e_0 rfl rfl ?_
  refine z_invT (pc := 1) (M' := mJ0_isLatin1) (mk' := z_i) (n := 0) (st := []) (av := []) dJ0_charAt_5068e_1 rfl hj ⟨(zs4 _ (List.mem_of_getElem? (i := 12) rfl)), (zs3 _ (List.mem_of_getElem? (i := 23) rfl)), (zs4 _ (List.mem_of_getElem? (i := 15) rfl))⟩ rfl (zs4 _ (List.mem_of_getElem? (i := 13) rfl)) (zs4 _ (List.mem_of_getElem? (i := 14) rfl)) (by decide +kernel) rfl (by decide) (Nat.le_of_ble_eq_true rfl) (kJ0_isLatin1 hj (D + 2)) (fun r s1 => ?_)
  refine z_if_eq (tgt := 16) (pc := 4) dJ0_charAt_5068e_4 (by decide) (fun _ => z_none) (fun _ => ?_)
  refine z_aload_n (pc := 7) dJ0_charAt_5068e_7 rfl rfl ?_
  refine z_jval (pc := 8) hj dJ0_charAt_5068e_8 (zs4 _ (List.mem_of_getElem? (i := 1) rfl)) ?_
  refine z_iload_n (pc := 11) dJ0_charAt_5068e_11 rfl rfl ?_
  refine z_invS (pc := 12) (M' := mJ1_charAt) (mk' := z_i) (n := 2) (st := []) (av := [zR (1100 + j), zI i]) dJ0_charAt_5068e_12 rfl ⟨(zs4 _ (List.mem_of_getElem? (i := 16) rfl)), (zs4 _ (List.mem_of_getElem? (i := 18) rfl)), (zs4 _ (List.mem_of_getElem? (i := 19) rfl))⟩ (zs4 _ (List.mem_of_getElem? (i := 17) rfl)) (by decide +kernel) rfl (by decide) (Nat.le_of_ble_eq_true rfl) (hJ s1) (fun r2 s2 => ?_)
  exact z_guard fun hz => z_iret (pc := 15) dJ0_charAt_5068e_15 rfl (by rw [hz]; exact hnar)
section ZT
variable {α : Type} {Y : z_Lay} {M : z_M} {d : Nat} {mk : α → Option z_V} {pc i k : Nat} {lv : List (Option z_V)} {st : List z_V} {σ : z_Mem} {o : Option (α × z_Mem)}
theorem z_strlen {ib : Decidable (z_str k)} (hd : decode M.2.2.1 pc = .ok (.invokevirtual i, 3)) (hw : Cond.methodLink M.1 i yJ0_length_8abf5 ∈ wsL_law) (hD : 2 ≤ d) (hcs : z_catS st ≤ 8) (kk : z_Go Y M (d + 1) mk (pc + 3) lv (zI (z_slen k) :: st) σ o) : z_Go Y M (d + 1) mk pc lv (zR k :: st) σ (z_gd (z_str k) o) := by
  refine z_guard fun hg => ?_
  obtain ⟨j, rfl⟩ : ∃ j, k = 1000 + j := ⟨k - 1000, by omega⟩
  obtain ⟨D, rfl⟩ : ∃ E, d = E + 1 := ⟨d - 1, by omega⟩
  have hj : j < 13 := by omega
  have e : z_slen (1000 + j) = Int32.ofNat (z_len.getD j 0) := by simp [z_slen, z_slenN]
  have e2 : o = z_bd (some (z_slen (1000 + j), σ)) (fun r s1 => z_gd (r = z_slen (1000 + j)) (z_gd True o)) := by simp [z_bd, z_gd]
  intro r σ' ho p l e' s m args below meth c Dg ad cy F H locs ls hP hS hl
  obtain ⟨hx, hb, hr, hml, hown, hts, hlk, hK, hij, hE⟩ := id F
  have hM := kJ0_length (Y := Y) (σ := σ) hj D _ _ rfl l Dg ad cy hij
  rw [← e] at hM
  have cb : CallB (z_rm (D + 1 + 1)) s args M.1 i mJ0_length.2.1 mJ0_length.2.2.1 1 (some .int) (z_wl mJ0_length) (z_rm (D + 1)) 0 0 0 := callB_of 0 hts (z_good (M' := mJ0_length) (zs4 _ (List.mem_of_getElem? (i := 0) rfl))) rfl rfl rfl (hts _ (zs3 _ (List.mem_of_getElem? (i := 23) rfl))) (hts _ hw) (by decide +kernel) ⟨Nat.le_refl _, by show 8 + (1 + 11) + 32 * (D + 1) ≤ 32 * (D + 1 + 1); omega⟩
  have hrec := vk_recv hE.2.2.2.2.2.1 hj hS
  have hrun := va_runV (H := H) (locs := locs) (cells := 0) (slots := 0) (below := below) (meth := meth) (g := F0 m pc ls ((zR (1000 + j) :: st).map (z_v ad))) (As := []) (b := ad (1000 + j)) (rest := st.map (z_v ad)) (R := z_rm (D + 1 + 1)) (p := p) (e := e') (C := RJ0) ⟨hx, hb, hml, hown, hts⟩ hM ⟨cb, hts _ (zs3 _ (List.mem_of_getElem? (i := 21) rfl)), hts _ (zs3 _ (List.mem_of_getElem? (i := 22) rfl))⟩ ⟨z_blind, hrec, fun U hU hW => z_okPre (av := [zR (1000 + j)]) hP hS hK hE hU hW⟩ rfl rfl hl.1 (by simp [z_v]) (by show 2 * 0 + _ ≤ 8; rw [z_catS_eq]; omega) hd ⟨Nat.le_refl _, Nat.le_refl _⟩
  refine z_cont hrun hS (fun H1 locs1 hP1 hS1 => ?_)
  exact kk r σ' ho p l e' s m args below meth c Dg ad cy F H1 locs1 ls hP1 hS1 hl
theorem z_strch {x : Int32} {ib : Decidable (z_strI k x)} (hd : decode M.2.2.1 pc = .ok (.invokevirtual i, 3)) (hw : Cond.methodLink M.1 i yJ0_charAt_5068e ∈ wsL_law) (hD : 4 ≤ d) (hcs : z_catS st ≤ 8) (kk : z_Go Y M (d + 1) mk (pc + 3) lv (zI (z_sch k x) :: st) σ o) : z_Go Y M (d + 1) mk pc lv (zI x :: zR k :: st) σ (z_gd (z_strI k x) o) := by
  refine z_guard fun hg => ?_
  obtain ⟨j, rfl⟩ : ∃ j, k = 1000 + j := ⟨k - 1000, by omega⟩
  obtain ⟨D, rfl⟩ : ∃ E, d = E + 3 := ⟨d - 3, by omega⟩
  have hj : j < 13 := by omega
  have hlen : z_slenN (1000 + j) = z_len.getD j 0 := by simp [z_slenN]
  have hi : z_in x (z_len.getD j 0) := by rw [← hlen]; exact hg.2
  have e : (((z_byt.getD j []).getD (z_x x) 0 &&& 255).toUInt32 % 65536).toInt32 = z_sch (1000 + j) x := by
    obtain ⟨ha, hb⟩ := z_ascii j hj
    obtain ⟨q, hq, rfl⟩ := vp_in_of (z_in_vp hi) (by have : ∀ j, j < 13 → z_len.getD j 0 < 2 ^ 31 := by decide +kernel
                                                     exact this j hj)
    have hx : z_x (nI q) = q := nI_clamp (by have : ∀ j, j < 13 → z_len.getD j 0 < 2 ^ 31 := by decide +kernel
                                             have := this j hj
                                             omega)
    rw [sc_c2]
    have e1 : z_sch (1000 + j) (nI q) = (z_byt.getD j []).getD (z_x (nI q)) 0 := by simp [z_sch]
    rw [e1]
    apply ha
    rw [hx]
    have hq2 : q < (z_byt.getD j []).length := by omega
    exact z_getD_mem _ _ hq2
  intro r σ' ho p l e' s m args below meth c Dg ad cy F H locs ls hP hS hl
  obtain ⟨hx, hb, hr, hml, hown, hts, hlk, hK, hij, hE⟩ := id F
  have hM := kJ0_charAt (Y := Y) (σ := σ) hj hi D _ _ rfl l Dg ad cy hij
  rw [e] at hM
  have cb : CallB (z_rm (D + 3 + 1)) s args M.1 i mJ0_charAt.2.1 mJ0_charAt.2.2.1 2 (some .char) (z_wl mJ0_charAt) (z_rm (D + 3)) 0 0 1 := callB_of 1 hts (z_good (M' := mJ0_charAt) (zs4 _ (List.mem_of_getElem? (i := 11) rfl))) rfl rfl rfl (hts _ (zs3 _ (List.mem_of_getElem? (i := 23) rfl))) (hts _ hw) (by decide +kernel) ⟨Nat.le_refl _, by show 8 + (2 + 11) + 32 * (D + 3) ≤ 32 * (D + 3 + 1); omega⟩
  have hrec := vk_recv hE.2.2.2.2.2.1 hj hS
  have hrun := va_runV (H := H) (locs := locs) (cells := 0) (slots := 0) (below := below) (meth := meth) (g := F0 m pc ls ((zI x :: zR (1000 + j) :: st).map (z_v ad))) (As := [.int x]) (b := ad (1000 + j)) (rest := st.map (z_v ad)) (R := z_rm (D + 3 + 1)) (p := p) (e := e') (C := RJ0) ⟨hx, hb, hml, hown, hts⟩ hM ⟨cb, hts _ (zs4 _ (List.mem_of_getElem? (i := 9) rfl)), hts _ (zs4 _ (List.mem_of_getElem? (i := 10) rfl))⟩ ⟨z_blind, hrec, fun U hU hW => z_okPre (av := [zR (1000 + j), zI x]) hP hS hK hE hU hW⟩ rfl rfl hl.1 (by simp [z_v]) (by show 2 * 0 + _ ≤ 8; rw [z_catS_eq]; omega) hd ⟨Nat.le_refl _, Nat.le_refl _⟩
  refine z_cont hrun hS (fun H1 locs1 hP1 hS1 => ?_)
  exact kk r σ' ho p l e' s m args below meth c Dg ad cy F H1 locs1 ls hP1 hS1 hl
end ZT
