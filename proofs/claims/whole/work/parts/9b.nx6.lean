/-! WallsOfPrisonersModel(): its letters, its contract -/
section ZLT
variable {p : Program} {l : Launch} {e : Env} {R : Room} {s : State} {m : MethodId} {args : Array Value} {below : List Frame} {meth : Method} {c : Code} {H : Heap} {locs : List Loc} {cells slots : Nat} {Q : State → Prop}
variable {D : va_G} {cy : z_Cy} {ad : Nat → Nat} {B : Nat → Prop} {ls : Array Slot}
set_option maxHeartbeats 4000000 in
set_option maxRecDepth 100000 in
theorem wX6_b (hAB : ∀ q, z_A ad YM.length q → B q) (C0 : z_K0 RX6 cX6_init 1 p s m args meth c D cy) (hij : z_inj YM ad) (hE : z_Env ad (z_A ad YM.length) s s.heap) (hR : 40 ≤ R.frames ∧ 400 ≤ R.locals) (hf : cells ≤ R.cells ∧ slots ≤ R.slots) (hP : va_P D vwCl (z_ws YM ad cy zM1) H) (hS : z_S2 (z_A ad YM.length) B s.heap H locs) (hl : lv_has ls 1 [(0, .ref (ad 0))])
    (kk : ∀ (H : Heap) (locs : List Loc), va_P D vwCl (z_ws YM ad cy zM2) H → z_S2 (z_A ad YM.length) B s.heap H locs → W p l e R s m args below meth c H locs cells slots Q (F0 m 252 ls [])) : W p l e R s m args below meth c H locs cells slots Q (F0 m 121 ls []) := by
  obtain ⟨hx, hb, hml, hown, hts, hK, hin⟩ := id C0
  refine lv_aload_n hx hb dX6_init_121 rfl (lv_at hl 0 rfl) ?_
  refine lv_iconst (v := nI 0) hx hb dX6_init_122 rfl ?_
  refine lv_bipush (v := 103) hx hb dX6_init_123 rfl ?_
  refine lv_bipush (v := 114) hx hb dX6_init_125 rfl ?_
  refine lv_bipush (v := 105) hx hb dX6_init_127 rfl ?_
  refine lv_bipush (v := 112) hx hb dX6_init_129 rfl ?_
  refine lv_bipush (v := 115) hx hb dX6_init_131 rfl ?_
  refine lv_bipush (v := 32) hx hb dX6_init_133 rfl ?_
  refine lv_bipush (v := 115) hx hb dX6_init_135 rfl ?_
  refine lv_bipush (v := 116) hx hb dX6_init_137 rfl ?_
  refine z_callW (Y := YM) (σ := zM1) (kc := 0) (M' := mX6_spell) (n := 9) (av := [zI (nI 0), zI 103, zI 114, zI 105, zI 112, zI 115, zI 32, zI 115, zI 116]) (d := 1) (mk' := z_u) (own := RX6) ⟨hx, hb, hml, hown, hts⟩ dX6_init_139 ⟨(zs11 _ (List.mem_of_getElem? (i := 0) rfl)), (zs1 _ (List.mem_of_getElem? (i := 5) rfl)), (zs11 _ (List.mem_of_getElem? (i := 3) rfl))⟩ (zs11 _ (List.mem_of_getElem? (i := 1) rfl)) (zs11 _ (List.mem_of_getElem? (i := 2) rfl)) ym_0 rfl (by decide +kernel) rfl ⟨by omega, Nat.le_trans (m := 400) (Nat.le_of_ble_eq_true rfl) hR.2⟩ hf hl.1 (by decide) (kX6_spell (nI 0) 103 114 105 112 115 32 115 116 zM1 1 (by decide)) (m_spell (by decide) 103 114 105 112 115 32 115 116) hij hP hK (hE.kept hS.1.2.1) (fun H L hP hz hk hL => ?_)
  replace hS := z_Snext hAB hS hz hk hL
  refine W.eq (g2 := F0 m 142 ls []) rfl ?_
  generalize locs ++ L = locs at hS ⊢
  refine lv_aload_n hx hb dX6_init_142 rfl (lv_at hl 0 rfl) ?_
  refine lv_bipush (v := nI 8) hx hb dX6_init_143 rfl ?_
  refine lv_bipush (v := 114) hx hb dX6_init_145 rfl ?_
  refine lv_bipush (v := 101) hx hb dX6_init_147 rfl ?_
  refine lv_bipush (v := 110) hx hb dX6_init_149 rfl ?_
  refine lv_bipush (v := 103) hx hb dX6_init_151 rfl ?_
  refine lv_bipush (v := 116) hx hb dX6_init_153 rfl ?_
  refine lv_bipush (v := 104) hx hb dX6_init_155 rfl ?_
  refine lv_bipush (v := 32) hx hb dX6_init_157 rfl ?_
  refine lv_bipush (v := 45) hx hb dX6_init_159 rfl ?_
  refine z_callW (Y := YM) (σ := (z_p8 zM1 0 103 114 105 112 115 32 115 116)) (kc := 0) (M' := mX6_spell) (n := 9) (av := [zI (nI 8), zI 114, zI 101, zI 110, zI 103, zI 116, zI 104, zI 32, zI 45]) (d := 1) (mk' := z_u) (own := RX6) ⟨hx, hb, hml, hown, hts⟩ dX6_init_161 ⟨(zs11 _ (List.mem_of_getElem? (i := 0) rfl)), (zs1 _ (List.mem_of_getElem? (i := 5) rfl)), (zs11 _ (List.mem_of_getElem? (i := 3) rfl))⟩ (zs11 _ (List.mem_of_getElem? (i := 1) rfl)) (zs11 _ (List.mem_of_getElem? (i := 2) rfl)) ym_0 rfl (by decide +kernel) rfl ⟨by omega, Nat.le_trans (m := 400) (Nat.le_of_ble_eq_true rfl) hR.2⟩ hf hl.1 (by decide) (kX6_spell (nI 8) 114 101 110 103 116 104 32 45 (z_p8 zM1 0 103 114 105 112 115 32 115 116) 1 (by decide)) (m_spell (by decide) 114 101 110 103 116 104 32 45) hij hP hK (hE.kept hS.1.2.1) (fun H L hP hz hk hL => ?_)
  replace hS := z_Snext hAB hS hz hk hL
  refine W.eq (g2 := F0 m 164 ls []) rfl ?_
  generalize locs ++ L = locs at hS ⊢
  refine lv_aload_n hx hb dX6_init_164 rfl (lv_at hl 0 rfl) ?_
  refine lv_bipush (v := nI 16) hx hb dX6_init_165 rfl ?_
  refine lv_bipush (v := 32) hx hb dX6_init_167 rfl ?_
  refine lv_bipush (v := 99) hx hb dX6_init_169 rfl ?_
  refine lv_bipush (v := 111) hx hb dX6_init_171 rfl ?_
  refine lv_bipush (v := 108) hx hb dX6_init_173 rfl ?_
  refine lv_bipush (v := 100) hx hb dX6_init_175 rfl ?_
  refine lv_bipush (v := 32) hx hb dX6_init_177 rfl ?_
  refine lv_bipush (v := 59) hx hb dX6_init_179 rfl ?_
  refine lv_bipush (v := 32) hx hb dX6_init_181 rfl ?_
  refine z_callW (Y := YM) (σ := (z_p8 (z_p8 zM1 0 103 114 105 112 115 32 115 116) 8 114 101 110 103 116 104 32 45)) (kc := 0) (M' := mX6_spell) (n := 9) (av := [zI (nI 16), zI 32, zI 99, zI 111, zI 108, zI 100, zI 32, zI 59, zI 32]) (d := 1) (mk' := z_u) (own := RX6) ⟨hx, hb, hml, hown, hts⟩ dX6_init_183 ⟨(zs11 _ (List.mem_of_getElem? (i := 0) rfl)), (zs1 _ (List.mem_of_getElem? (i := 5) rfl)), (zs11 _ (List.mem_of_getElem? (i := 3) rfl))⟩ (zs11 _ (List.mem_of_getElem? (i := 1) rfl)) (zs11 _ (List.mem_of_getElem? (i := 2) rfl)) ym_0 rfl (by decide +kernel) rfl ⟨by omega, Nat.le_trans (m := 400) (Nat.le_of_ble_eq_true rfl) hR.2⟩ hf hl.1 (by decide) (kX6_spell (nI 16) 32 99 111 108 100 32 59 32 (z_p8 (z_p8 zM1 0 103 114 105 112 115 32 115 116) 8 114 101 110 103 116 104 32 45) 1 (by decide)) (m_spell (by decide) 32 99 111 108 100 32 59 32) hij hP hK (hE.kept hS.1.2.1) (fun H L hP hz hk hL => ?_)
  replace hS := z_Snext hAB hS hz hk hL
  refine W.eq (g2 := F0 m 186 ls []) rfl ?_
  generalize locs ++ L = locs at hS ⊢
  refine lv_aload_n hx hb dX6_init_186 rfl (lv_at hl 0 rfl) ?_
  refine lv_bipush (v := nI 24) hx hb dX6_init_187 rfl ?_
  refine lv_bipush (v := 104) hx hb dX6_init_189 rfl ?_
  refine lv_bipush (v := 97) hx hb dX6_init_191 rfl ?_
  refine lv_bipush (v := 110) hx hb dX6_init_193 rfl ?_
  refine lv_bipush (v := 100) hx hb dX6_init_195 rfl ?_
  refine lv_bipush (v := 115) hx hb dX6_init_197 rfl ?_
  refine lv_bipush (v := 32) hx hb dX6_init_199 rfl ?_
  refine lv_bipush (v := 51) hx hb dX6_init_201 rfl ?_
  refine lv_bipush (v := 32) hx hb dX6_init_203 rfl ?_
  refine z_callW (Y := YM) (σ := (z_p8 (z_p8 (z_p8 zM1 0 103 114 105 112 115 32 115 116) 8 114 101 110 103 116 104 32 45) 16 32 99 111 108 100 32 59 32)) (kc := 0) (M' := mX6_spell) (n := 9) (av := [zI (nI 24), zI 104, zI 97, zI 110, zI 100, zI 115, zI 32, zI 51, zI 32]) (d := 1) (mk' := z_u) (own := RX6) ⟨hx, hb, hml, hown, hts⟩ dX6_init_205 ⟨(zs11 _ (List.mem_of_getElem? (i := 0) rfl)), (zs1 _ (List.mem_of_getElem? (i := 5) rfl)), (zs11 _ (List.mem_of_getElem? (i := 3) rfl))⟩ (zs11 _ (List.mem_of_getElem? (i := 1) rfl)) (zs11 _ (List.mem_of_getElem? (i := 2) rfl)) ym_0 rfl (by decide +kernel) rfl ⟨by omega, Nat.le_trans (m := 400) (Nat.le_of_ble_eq_true rfl) hR.2⟩ hf hl.1 (by decide) (kX6_spell (nI 24) 104 97 110 100 115 32 51 32 (z_p8 (z_p8 (z_p8 zM1 0 103 114 105 112 115 32 115 116) 8 114 101 110 103 116 104 32 45) 16 32 99 111 108 100 32 59 32) 1 (by decide)) (m_spell (by decide) 104 97 110 100 115 32 51 32) hij hP hK (hE.kept hS.1.2.1) (fun H L hP hz hk hL => ?_)
  replace hS := z_Snext hAB hS hz hk hL
  refine W.eq (g2 := F0 m 208 ls []) rfl ?_
  generalize locs ++ L = locs at hS ⊢
  refine lv_aload_n hx hb dX6_init_208 rfl (lv_at hl 0 rfl) ?_
  refine lv_bipush (v := nI 32) hx hb dX6_init_209 rfl ?_
  refine lv_bipush (v := 59) hx hb dX6_init_211 rfl ?_
  refine lv_bipush (v := 32) hx hb dX6_init_213 rfl ?_
  refine lv_bipush (v := 116) hx hb dX6_init_215 rfl ?_
  refine lv_bipush (v := 105) hx hb dX6_init_217 rfl ?_
  refine lv_bipush (v := 114) hx hb dX6_init_219 rfl ?_
  refine lv_bipush (v := 101) hx hb dX6_init_221 rfl ?_
  refine lv_bipush (v := 115) hx hb dX6_init_223 rfl ?_
  refine lv_bipush (v := 32) hx hb dX6_init_225 rfl ?_
  refine z_callW (Y := YM) (σ := (z_p8 (z_p8 (z_p8 (z_p8 zM1 0 103 114 105 112 115 32 115 116) 8 114 101 110 103 116 104 32 45) 16 32 99 111 108 100 32 59 32) 24 104 97 110 100 115 32 51 32)) (kc := 0) (M' := mX6_spell) (n := 9) (av := [zI (nI 32), zI 59, zI 32, zI 116, zI 105, zI 114, zI 101, zI 115, zI 32]) (d := 1) (mk' := z_u) (own := RX6) ⟨hx, hb, hml, hown, hts⟩ dX6_init_227 ⟨(zs11 _ (List.mem_of_getElem? (i := 0) rfl)), (zs1 _ (List.mem_of_getElem? (i := 5) rfl)), (zs11 _ (List.mem_of_getElem? (i := 3) rfl))⟩ (zs11 _ (List.mem_of_getElem? (i := 1) rfl)) (zs11 _ (List.mem_of_getElem? (i := 2) rfl)) ym_0 rfl (by decide +kernel) rfl ⟨by omega, Nat.le_trans (m := 400) (Nat.le_of_ble_eq_true rfl) hR.2⟩ hf hl.1 (by decide) (kX6_spell (nI 32) 59 32 116 105 114 101 115 32 (z_p8 (z_p8 (z_p8 (z_p8 zM1 0 103 114 105 112 115 32 115 116) 8 114 101 110 103 116 104 32 45) 16 32 99 111 108 100 32 59 32) 24 104 97 110 100 115 32 51 32) 1 (by decide)) (m_spell (by decide) 59 32 116 105 114 101 115 32) hij hP hK (hE.kept hS.1.2.1) (fun H L hP hz hk hL => ?_)
  replace hS := z_Snext hAB hS hz hk hL
  refine W.eq (g2 := F0 m 230 ls []) rfl ?_
  generalize locs ++ L = locs at hS ⊢
  refine lv_aload_n hx hb dX6_init_230 rfl (lv_at hl 0 rfl) ?_
  refine lv_bipush (v := nI 40) hx hb dX6_init_231 rfl ?_
  refine lv_bipush (v := 49) hx hb dX6_init_233 rfl ?_
  refine lv_bipush (v := 32) hx hb dX6_init_235 rfl ?_
  refine lv_bipush (v := 59) hx hb dX6_init_237 rfl ?_
  refine lv_bipush (v := 32) hx hb dX6_init_239 rfl ?_
  refine lv_bipush (v := 32) hx hb dX6_init_241 rfl ?_
  refine lv_bipush (v := 32) hx hb dX6_init_243 rfl ?_
  refine lv_bipush (v := 32) hx hb dX6_init_245 rfl ?_
  refine lv_bipush (v := 32) hx hb dX6_init_247 rfl ?_
  refine z_callW (Y := YM) (σ := (z_p8 (z_p8 (z_p8 (z_p8 (z_p8 zM1 0 103 114 105 112 115 32 115 116) 8 114 101 110 103 116 104 32 45) 16 32 99 111 108 100 32 59 32) 24 104 97 110 100 115 32 51 32) 32 59 32 116 105 114 101 115 32)) (kc := 0) (M' := mX6_spell) (n := 9) (av := [zI (nI 40), zI 49, zI 32, zI 59, zI 32, zI 32, zI 32, zI 32, zI 32]) (d := 1) (mk' := z_u) (own := RX6) ⟨hx, hb, hml, hown, hts⟩ dX6_init_249 ⟨(zs11 _ (List.mem_of_getElem? (i := 0) rfl)), (zs1 _ (List.mem_of_getElem? (i := 5) rfl)), (zs11 _ (List.mem_of_getElem? (i := 3) rfl))⟩ (zs11 _ (List.mem_of_getElem? (i := 1) rfl)) (zs11 _ (List.mem_of_getElem? (i := 2) rfl)) ym_0 rfl (by decide +kernel) rfl ⟨by omega, Nat.le_trans (m := 400) (Nat.le_of_ble_eq_true rfl) hR.2⟩ hf hl.1 (by decide) (kX6_spell (nI 40) 49 32 59 32 32 32 32 32 (z_p8 (z_p8 (z_p8 (z_p8 (z_p8 zM1 0 103 114 105 112 115 32 115 116) 8 114 101 110 103 116 104 32 45) 16 32 99 111 108 100 32 59 32) 24 104 97 110 100 115 32 51 32) 32 59 32 116 105 114 101 115 32) 1 (by decide)) (m_spell (by decide) 49 32 59 32 32 32 32 32) hij hP hK (hE.kept hS.1.2.1) (fun H L hP hz hk hL => ?_)
  replace hS := z_Snext hAB hS hz hk hL
  refine W.eq (g2 := F0 m 252 ls []) rfl ?_
  generalize locs ++ L = locs at hS ⊢
  exact kk H locs hP hS
theorem z_S2w {A : Nat → Prop} {H0 H H1 : Heap} {locs0 : List Loc} (hS : va_S A H0 H locs0) : va_S A H0 H locs0 := hS
/-- the world's own S and the frame's: where only the world's cells are written since -/
theorem wX6_c (hAB : ∀ q, z_A ad YM.length q → B q) (C0 : z_K0 RX6 cX6_init 1 p s m args meth c D cy) (hij : z_inj YM ad) (hP : va_P D vwCl (z_ws YM ad cy zM2) H) (hS : va_S B s.heap H locs) (hl : lv_has ls 1 [(0, .ref (ad 0))])
    (kk : ∀ (H : Heap) (locs : List Loc), va_P D vwCl (z_ws YM ad cy zM0) H → va_S B s.heap H locs → W p l e R s m args below meth c H locs cells slots Q (F0 m 265 ls [])) : W p l e R s m args below meth c H locs cells slots Q (F0 m 252 ls []) := by
  obtain ⟨hx, hb, hml, hown, hts, hK, hin⟩ := id C0
  have hDB : ∀ σ, va_D B (z_ws YM ad cy σ) := fun σ => (z_D (σ := σ) (cy := cy) hij).weaken (fun _ _ _ h => hAB _ h)
  refine lv_aload_n hx hb dX6_init_252 rfl (lv_at hl 0 rfl) ?_
  refine va_get (D := D) (ci := 6) (C := RX6) (ref := RX6) (T := TX6) (N := 44) (v := .ref (ad 2)) hx hb hts inlX6 hown hK hP 0 (z_ws_get ym_0) rfl 2 (by decide) (hts _ (zs10 _ (List.mem_of_getElem? (i := 8) rfl))) (fun _ h => h) (z_get_fs (t := 4) rfl) dX6_init_253 ?_
  refine lv_iconst (v := 0) hx hb dX6_init_256 rfl ?_
  refine lv_bipush (v := 48) hx hb dX6_init_257 rfl ?_
  have hin0 : vp_in (0 : Int32) 6 := by unfold vp_in; decide
  refine va_iast hx hb hK hP (hDB _) hS 2 0 (f := zM2.1 2) (z_ws_get ym_2) rfl hin0 dX6_init_259 (fun H locs hP hD hS => ?_)
  rw [z_set_i ym_2] at hP
  replace hP : va_P D vwCl (z_ws YM ad cy (z_pt zM2 2 0 48)) H := hP
  refine lv_aload_n hx hb dX6_init_260 rfl (lv_at hl 0 rfl) ?_
  refine lv_iconst (v := 1) hx hb dX6_init_261 rfl ?_
  refine va_put (v := .int 1) hx hb hts inlX6 tyX6 tyX6_ok nmX6 hown hK hP (hDB _) hS 0 (z_ws_get ym_0) rfl 3 (by decide) (hts _ (zs10 _ (List.mem_of_getElem? (i := 23) rfl))) (fun _ h => h) rfl (ty := .int) (tyX6_ok 3 (by decide)) rfl rfl (by rw [List.length_mapIdx]; decide) dX6_init_262 (fun H locs hP hD hS => ?_)
  rw [z_set_f ym_0 rfl, zM2_0] at hP
  exact kk H locs hP hS
end ZLT
def z_P6 (D : va_G) (cy : z_Cy) (h0 sz : Nat) (e0 : Nat → Nat) : Array Value → State → Prop := va_Pc [.ref h0] (fun U => U.heap.size = sz ∧ va_P D vwCl [(h0, .inr (6, [.int 0, .null, .null, .int 0, .int 0, .null, .int 0, .int 0, .int 0, .null, .int 0, .null, .int 0, .int 0, .int 0, .int 0, .int 0, .int 0, .int 0, .int 0, .int 0, .int 0, .int 0, .int 0, .long 0, .int 0, .int 0, .int 0, .null, .null, .null, .int 0, .int 0, .null, .null, .int 0, .int 0, .int 0, .int 0, .int 0, .null, .null, .null, .null]))] U.heap ∧ va_K D vwCl (z_tys cy) U ∧ z_Env e0 (z_An h0 sz) U U.heap)
def z_Q6 (D : va_G) (cy : z_Cy) (h0 sz : Nat) (e0 : Nat → Nat) : Array Value → State → Outcome → State → Prop :=
  fun _ st oc t => oc = .returned none ∧ (∃ (ad : Nat → Nat), z_inj YM ad ∧ ad 0 = h0 ∧ (∀ q, z_A ad YM.length q → z_An h0 sz q) ∧ (∀ k, 1000 ≤ k → ad k = e0 k) ∧ va_P D vwCl (z_ws YM ad cy zM0) t.heap) ∧ va_F (z_An h0 sz) st t
set_option maxHeartbeats 4000000 in
set_option maxRecDepth 100000 in
theorem nX6 (l : Launch) (D : va_G) (cy : z_Cy) (h0 sz : Nat) (e0 : Nat → Nat) : Met l yX6_init (z_wl mX6_init) { frames := 80, cells := 200, slots := 4000, locals := 2400 } (z_P6 D cy h0 sz e0) (z_Q6 D cy h0 sz e0) 200 4000 (z_An h0 sz) := by
  refine Met.ofW (cc := cX6_init) (maxL := 1) (ret := none) (by decide) rfl ?_
  intro p e s m args below meth c s₁ BB hml hv
  obtain ⟨rfl, hsz, hP, hK, hE⟩ := hv
  have hts := atoms_spec (ws := z_wl mX6_init) BB.pre
  have C0 : z_K0 RX6 cX6_init 1 p s m _ meth c D cy := ⟨BB.exec, BB.bytes, hml, findClass_of_methodNamed BB.named, fun w hw => hts w (List.mem_cons_of_mem _ hw), hK, (name_of_methodNamed BB.named BB.method).1⟩
  have hr := BB.returns
  have hlocks := BB.notSynchronized
  subst hsz
  have hD : va_D (z_An h0 s.heap.size) [(h0, .inr (6, [.int 0, .null, .null, .int 0, .int 0, .null, .int 0, .int 0, .int 0, .null, .int 0, .null, .int 0, .int 0, .int 0, .int 0, .int 0, .int 0, .int 0, .int 0, .int 0, .int 0, .int 0, .int 0, .long 0, .int 0, .int 0, .int 0, .null, .null, .null, .int 0, .int 0, .null, .null, .int 0, .int 0, .int 0, .int 0, .int 0, .null, .null, .null, .null]))] := z_Dn
  have hA : ∀ q : Nat, s.heap.size ≤ q → z_An h0 s.heap.size q := fun q h => Or.inr h
  have hS : va_S (z_An h0 s.heap.size) s.heap s.heap [] := va_S.rf
  have hl := lv_entry ([.ref h0]) (n := 1) (Nat.le_of_ble_eq_true rfl)
  rw [lg_entry_eq]
  generalize (lg_sl ([.ref h0]) ++ List.replicate (1 - (lg_sl ([.ref h0])).length) Slot.unset).toArray = ls at hl ⊢
  have hl : lv_has ls 1 [(0, .ref h0)] := hl
  refine wX6_a C0 hP hD hS hA hl ⟨by decide, by decide⟩ (by decide) (by decide) (fun q1 q2 q3 q4 q5 q6 q7 q8 q9 q10 q11 q12 q13 q14 H locs hP hD hS => ?_)
  have hP2 := z_madeM e0 hP
  obtain ⟨hij, hsub⟩ := z_injOf (Y := YM) (ad := z_ad [h0, q1, q2, q3, q4, q5, q6, q7, q8, q9, q10, q11, q12, q13, q14] e0) hD rfl
  have hE2 := (z_ad_env (l := [h0, q1, q2, q3, q4, q5, q6, q7, q8, q9, q10, q11, q12, q13, q14]) hE).le hsub
  have had0 : z_ad [h0, q1, q2, q3, q4, q5, q6, q7, q8, q9, q10, q11, q12, q13, q14] e0 0 = h0 := rfl
  have hadE := z_adE (l := [h0, q1, q2, q3, q4, q5, q6, q7, q8, q9, q10, q11, q12, q13, q14]) (e0 := e0)
  generalize z_ad [h0, q1, q2, q3, q4, q5, q6, q7, q8, q9, q10, q11, q12, q13, q14] e0 = ad at hP2 hij hsub hE2 had0 hadE
  subst had0
  have hS2 : z_S2 (z_A ad YM.length) (z_An (ad 0) s.heap.size) s.heap H locs := ⟨⟨hS.1, fun q h1 h2 => hS.2.1 q h1 (fun z => by
    rcases z with z | z
    · exact h2 ⟨0, by decide, z⟩
    · omega), fun q hq => by cases hq⟩, hS.2.2⟩
  refine wX6_b hsub C0 hij hE2 ⟨by decide, by decide⟩ ⟨by decide, by decide⟩ hP2 hS2 hl (fun H locs hP hS => ?_)
  have hS3 : va_S (z_An (ad 0) s.heap.size) s.heap H locs := ⟨hS.1.1, fun q h1 h2 => hS.1.2.1 q h1 (fun z => h2 (hsub q z)), hS.2⟩
  refine wX6_c hsub C0 hij hP hS3 hl (fun H locs hP hS => ?_)
  refine W.widen (k := 200) (n := 4000) (by decide) (by decide) ?_
  exact W.vret BB.exec BB.bytes hr (fun t ht hW => ⟨rfl, ⟨ad, hij, rfl, hsub, hadE, by rw [ht]; exact hP⟩, hS.F ht⟩) hS.2.2 dX6_init_265
