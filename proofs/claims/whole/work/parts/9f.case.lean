/-! the law's cases 0 to 10 -/
section ZLC
variable {p : Program} {l : Launch} {e : Env} {R : Room} {s : State} {m : MethodId} {args : Array Value} {below : List Frame} {meth : Method} {c : Code} {H : Heap} {locs : List Loc} {cells slots : Nat} {Q : State → Prop}
variable {D : va_G} {cy : z_Cy} {b L : Nat} {xs : Nat → Int32} {adC adM : Nat → Nat} {i : Nat} {ls : Array Slot} {σ τ : z_Mem} {g : zG}
theorem lw_set (F : zLF p s m args c D cy b L xs adC adM) (hR : 1000 ≤ R.frames ∧ 36000 ≤ R.locals) (hf : cells ≤ R.cells ∧ slots ≤ R.slots) (hi : i + 6 ≤ L) (hl : lv_has ls 4 (z_lls adC adM b i)) (hc : cG σ g) (hm : mG τ g) (hw : gW g) (hP : va_P D vwCl (z_ws YC adC cy σ) H) (hP2 : va_P D vwCl (z_ws YM adM cy τ) H) (hS : va_S (fun q => s.heap.size ≤ q) s.heap H locs)
    (kk : ∀ (σ τ : z_Mem) (g : zG) (H : Heap) (locs : List Loc), cG σ g → mG τ g → gW g → va_P D vwCl (z_ws YC adC cy σ) H → va_P D vwCl (z_ws YM adM cy τ) H → va_S (fun q => s.heap.size ≤ q) s.heap H locs → W p l e R s m args below meth c H locs cells slots Q (F0 m 1191 ls [])) : W p l e R s m args below meth c H locs cells slots Q (F0 m 180 ls []) := by
  obtain ⟨hx, hb, hml, hown, hts, hK, hX, hbl, hL, hij, hij2, hA, hA2, hap, hE, hE2⟩ := id F
  obtain ⟨r, g1, hw1, ⟨r1, σ1, e1, h1, hc1⟩, ⟨r2, τ1, e2, h2, hm1⟩⟩ := p_set hc hm hw (xs (i + 1)) (xs (i + 2)) (xs (i + 3))
  subst h1
  subst h2
  refine lv_aload_n hx hb dL_law_180 rfl (lv_at hl 2 rfl) ?_
  refine lw_arg (k := 1) F hS hl (by omega) rfl dL_law_181 dL_law_182 dL_law_183 dL_law_184 dL_law_185 ?_
  refine lw_arg (k := 2) F hS hl (by omega) rfl dL_law_186 dL_law_187 dL_law_188 dL_law_189 dL_law_190 ?_
  refine lw_arg (k := 3) F hS hl (by omega) rfl dL_law_191 dL_law_192 dL_law_193 dL_law_194 dL_law_195 ?_
  refine lw_call (Y := YC) (Y2 := YM) (ad := adC) (ad2 := adM) (σ := σ) (τ := τ) (kc := 0) (M' := mX5_set) (n := 3) (av := [zI (xs (i + 1)), zI (xs (i + 2)), zI (xs (i + 3))]) (d := 3) (mk' := z_i) ⟨hx, hb, hml, hown, hts⟩ hK hij hA (fun q h z => hap q z h) hE dL_law_196 ⟨(zs11 _ (List.mem_of_getElem? (i := 4) rfl)), (zs1 _ (List.mem_of_getElem? (i := 2) rfl)), (zs11 _ (List.mem_of_getElem? (i := 7) rfl))⟩ (zs11 _ (List.mem_of_getElem? (i := 5) rfl)) (zs11 _ (List.mem_of_getElem? (i := 6) rfl)) yc_0 rfl (by decide +kernel) rfl ⟨by omega, Nat.le_trans (m := 36000) (Nat.le_of_ble_eq_true rfl) hR.2⟩ hf hl.1 (by decide) (kX5_set (xs (i + 1)) (xs (i + 2)) (xs (i + 3)) σ 3 (by decide)) e1 hP hP2 hS (fun H locs hP hP2 hS => ?_)
  refine W.eq (g2 := F0 m 199 ls [.int _]) rfl ?_
  refine lv_aload_n hx hb dL_law_199 rfl (lv_at hl 1 rfl) ?_
  refine lw_arg (k := 1) F hS hl (by omega) rfl dL_law_200 dL_law_201 dL_law_202 dL_law_203 dL_law_204 ?_
  refine lw_arg (k := 2) F hS hl (by omega) rfl dL_law_205 dL_law_206 dL_law_207 dL_law_208 dL_law_209 ?_
  refine lw_arg (k := 3) F hS hl (by omega) rfl dL_law_210 dL_law_211 dL_law_212 dL_law_213 dL_law_214 ?_
  refine lw_call (Y := YM) (Y2 := YC) (ad := adM) (ad2 := adC) (σ := τ) (τ := σ1) (kc := 0) (M' := mX6_set) (n := 3) (av := [zI (xs (i + 1)), zI (xs (i + 2)), zI (xs (i + 3))]) (d := 75) (mk' := z_i) ⟨hx, hb, hml, hown, hts⟩ hK hij2 hA2 hap hE2 dL_law_215 ⟨(zs12 _ (List.mem_of_getElem? (i := 4) rfl)), (zs1 _ (List.mem_of_getElem? (i := 5) rfl)), (zs12 _ (List.mem_of_getElem? (i := 7) rfl))⟩ (zs12 _ (List.mem_of_getElem? (i := 5) rfl)) (zs12 _ (List.mem_of_getElem? (i := 6) rfl)) ym_0 rfl (by decide +kernel) rfl ⟨by omega, Nat.le_trans (m := 36000) (Nat.le_of_ble_eq_true rfl) hR.2⟩ hf hl.1 (by simp [Value.category]) (kX6_set (xs (i + 1)) (xs (i + 2)) (xs (i + 3)) τ 75 (by decide)) e2 hP2 hP hS (fun H locs hP2 hP hS => ?_)
  refine W.eq (g2 := F0 m 218 ls [.int _, .int _]) rfl ?_
  exact lv_icmp_eq hx hb dL_law_218 (tgt := 1191) rfl (fun _ => kk _ _ _ H locs hc1 hm1 hw1 hP hP2 hS) (fun h => absurd rfl h)
theorem lw_man (F : zLF p s m args c D cy b L xs adC adM) (hR : 1000 ≤ R.frames ∧ 36000 ≤ R.locals) (hf : cells ≤ R.cells ∧ slots ≤ R.slots) (hi : i + 6 ≤ L) (hl : lv_has ls 4 (z_lls adC adM b i)) (hc : cG σ g) (hm : mG τ g) (hw : gW g) (hP : va_P D vwCl (z_ws YC adC cy σ) H) (hP2 : va_P D vwCl (z_ws YM adM cy τ) H) (hS : va_S (fun q => s.heap.size ≤ q) s.heap H locs)
    (kk : ∀ (σ τ : z_Mem) (g : zG) (H : Heap) (locs : List Loc), cG σ g → mG τ g → gW g → va_P D vwCl (z_ws YC adC cy σ) H → va_P D vwCl (z_ws YM adM cy τ) H → va_S (fun q => s.heap.size ≤ q) s.heap H locs → W p l e R s m args below meth c H locs cells slots Q (F0 m 1191 ls [])) : W p l e R s m args below meth c H locs cells slots Q (F0 m 223 ls []) := by
  obtain ⟨hx, hb, hml, hown, hts, hK, hX, hbl, hL, hij, hij2, hA, hA2, hap, hE, hE2⟩ := id F
  obtain ⟨r, g1, hw1, ⟨r1, σ1, e1, h1, hc1⟩, ⟨r2, τ1, e2, h2, hm1⟩⟩ := p_man hc hm hw (xs (i + 1)) (xs (i + 2)) (xs (i + 3))
  subst h1
  subst h2
  refine lv_aload_n hx hb dL_law_223 rfl (lv_at hl 2 rfl) ?_
  refine lw_arg (k := 1) F hS hl (by omega) rfl dL_law_224 dL_law_225 dL_law_226 dL_law_227 dL_law_228 ?_
  refine lw_arg (k := 2) F hS hl (by omega) rfl dL_law_229 dL_law_230 dL_law_231 dL_law_232 dL_law_233 ?_
  refine lw_arg (k := 3) F hS hl (by omega) rfl dL_law_234 dL_law_235 dL_law_236 dL_law_237 dL_law_238 ?_
  refine lw_call (Y := YC) (Y2 := YM) (ad := adC) (ad2 := adM) (σ := σ) (τ := τ) (kc := 0) (M' := mX5_man) (n := 3) (av := [zI (xs (i + 1)), zI (xs (i + 2)), zI (xs (i + 3))]) (d := 3) (mk' := z_i) ⟨hx, hb, hml, hown, hts⟩ hK hij hA (fun q h z => hap q z h) hE dL_law_239 ⟨(zs18 _ (List.mem_of_getElem? (i := 6) rfl)), (zs1 _ (List.mem_of_getElem? (i := 2) rfl)), (zs18 _ (List.mem_of_getElem? (i := 9) rfl))⟩ (zs18 _ (List.mem_of_getElem? (i := 7) rfl)) (zs18 _ (List.mem_of_getElem? (i := 8) rfl)) yc_0 rfl (by decide +kernel) rfl ⟨by omega, Nat.le_trans (m := 36000) (Nat.le_of_ble_eq_true rfl) hR.2⟩ hf hl.1 (by decide) (kX5_man (xs (i + 1)) (xs (i + 2)) (xs (i + 3)) σ 3 (by decide)) e1 hP hP2 hS (fun H locs hP hP2 hS => ?_)
  refine W.eq (g2 := F0 m 242 ls [.int _]) rfl ?_
  refine lv_aload_n hx hb dL_law_242 rfl (lv_at hl 1 rfl) ?_
  refine lw_arg (k := 1) F hS hl (by omega) rfl dL_law_243 dL_law_244 dL_law_245 dL_law_246 dL_law_247 ?_
  refine lw_arg (k := 2) F hS hl (by omega) rfl dL_law_248 dL_law_249 dL_law_250 dL_law_251 dL_law_252 ?_
  refine lw_arg (k := 3) F hS hl (by omega) rfl dL_law_253 dL_law_254 dL_law_255 dL_law_256 dL_law_257 ?_
  refine lw_call (Y := YM) (Y2 := YC) (ad := adM) (ad2 := adC) (σ := τ) (τ := σ1) (kc := 0) (M' := mX6_man) (n := 3) (av := [zI (xs (i + 1)), zI (xs (i + 2)), zI (xs (i + 3))]) (d := 2) (mk' := z_i) ⟨hx, hb, hml, hown, hts⟩ hK hij2 hA2 hap hE2 dL_law_258 ⟨(zs18 _ (List.mem_of_getElem? (i := 19) rfl)), (zs1 _ (List.mem_of_getElem? (i := 5) rfl)), (zs18 _ (List.mem_of_getElem? (i := 22) rfl))⟩ (zs18 _ (List.mem_of_getElem? (i := 20) rfl)) (zs18 _ (List.mem_of_getElem? (i := 21) rfl)) ym_0 rfl (by decide +kernel) rfl ⟨by omega, Nat.le_trans (m := 36000) (Nat.le_of_ble_eq_true rfl) hR.2⟩ hf hl.1 (by simp [Value.category]) (kX6_man (xs (i + 1)) (xs (i + 2)) (xs (i + 3)) τ 2 (by decide)) e2 hP2 hP hS (fun H locs hP2 hP hS => ?_)
  refine W.eq (g2 := F0 m 261 ls [.int _, .int _]) rfl ?_
  exact lv_icmp_eq hx hb dL_law_261 (tgt := 1191) rfl (fun _ => kk _ _ _ H locs hc1 hm1 hw1 hP hP2 hS) (fun h => absurd rfl h)
theorem lw_told (F : zLF p s m args c D cy b L xs adC adM) (hR : 1000 ≤ R.frames ∧ 36000 ≤ R.locals) (hf : cells ≤ R.cells ∧ slots ≤ R.slots) (hi : i + 6 ≤ L) (hl : lv_has ls 4 (z_lls adC adM b i)) (hc : cG σ g) (hm : mG τ g) (hw : gW g) (hP : va_P D vwCl (z_ws YC adC cy σ) H) (hP2 : va_P D vwCl (z_ws YM adM cy τ) H) (hS : va_S (fun q => s.heap.size ≤ q) s.heap H locs)
    (kk : ∀ (σ τ : z_Mem) (g : zG) (H : Heap) (locs : List Loc), cG σ g → mG τ g → gW g → va_P D vwCl (z_ws YC adC cy σ) H → va_P D vwCl (z_ws YM adM cy τ) H → va_S (fun q => s.heap.size ≤ q) s.heap H locs → W p l e R s m args below meth c H locs cells slots Q (F0 m 1191 ls [])) : W p l e R s m args below meth c H locs cells slots Q (F0 m 266 ls []) := by
  obtain ⟨hx, hb, hml, hown, hts, hK, hX, hbl, hL, hij, hij2, hA, hA2, hap, hE, hE2⟩ := id F
  obtain ⟨r, g1, hw1, ⟨r1, σ1, e1, h1, hc1⟩, ⟨r2, τ1, e2, h2, hm1⟩⟩ := p_told hc hm hw (xs (i + 1)) (xs (i + 2))
  subst h1
  subst h2
  refine lv_aload_n hx hb dL_law_266 rfl (lv_at hl 2 rfl) ?_
  refine lw_arg (k := 1) F hS hl (by omega) rfl dL_law_267 dL_law_268 dL_law_269 dL_law_270 dL_law_271 ?_
  refine lw_arg (k := 2) F hS hl (by omega) rfl dL_law_272 dL_law_273 dL_law_274 dL_law_275 dL_law_276 ?_
  refine lw_call (Y := YC) (Y2 := YM) (ad := adC) (ad2 := adM) (σ := σ) (τ := τ) (kc := 0) (M' := mX5_told) (n := 2) (av := [zI (xs (i + 1)), zI (xs (i + 2))]) (d := 5) (mk' := z_i) ⟨hx, hb, hml, hown, hts⟩ hK hij hA (fun q h z => hap q z h) hE dL_law_277 ⟨(zs19 _ (List.mem_of_getElem? (i := 2) rfl)), (zs1 _ (List.mem_of_getElem? (i := 2) rfl)), (zs19 _ (List.mem_of_getElem? (i := 5) rfl))⟩ (zs19 _ (List.mem_of_getElem? (i := 3) rfl)) (zs19 _ (List.mem_of_getElem? (i := 4) rfl)) yc_0 rfl (by decide +kernel) rfl ⟨by omega, Nat.le_trans (m := 36000) (Nat.le_of_ble_eq_true rfl) hR.2⟩ hf hl.1 (by decide) (kX5_told (xs (i + 1)) (xs (i + 2)) σ 5 (by decide)) e1 hP hP2 hS (fun H locs hP hP2 hS => ?_)
  refine W.eq (g2 := F0 m 280 ls [.int _]) rfl ?_
  refine lv_aload_n hx hb dL_law_280 rfl (lv_at hl 1 rfl) ?_
  refine lw_arg (k := 1) F hS hl (by omega) rfl dL_law_281 dL_law_282 dL_law_283 dL_law_284 dL_law_285 ?_
  refine lw_arg (k := 2) F hS hl (by omega) rfl dL_law_286 dL_law_287 dL_law_288 dL_law_289 dL_law_290 ?_
  refine lw_call (Y := YM) (Y2 := YC) (ad := adM) (ad2 := adC) (σ := τ) (τ := σ1) (kc := 0) (M' := mX6_told) (n := 2) (av := [zI (xs (i + 1)), zI (xs (i + 2))]) (d := 74) (mk' := z_i) ⟨hx, hb, hml, hown, hts⟩ hK hij2 hA2 hap hE2 dL_law_291 ⟨(zs21 _ (List.mem_of_getElem? (i := 13) rfl)), (zs1 _ (List.mem_of_getElem? (i := 5) rfl)), (zs13 _ (List.mem_of_getElem? (i := 8) rfl))⟩ (zs13 _ (List.mem_of_getElem? (i := 6) rfl)) (zs13 _ (List.mem_of_getElem? (i := 7) rfl)) ym_0 rfl (by decide +kernel) rfl ⟨by omega, Nat.le_trans (m := 36000) (Nat.le_of_ble_eq_true rfl) hR.2⟩ hf hl.1 (by simp [Value.category]) (kX6_told (xs (i + 1)) (xs (i + 2)) τ 74 (by decide)) e2 hP2 hP hS (fun H locs hP2 hP hS => ?_)
  refine W.eq (g2 := F0 m 294 ls [.int _, .int _]) rfl ?_
  exact lv_icmp_eq hx hb dL_law_294 (tgt := 1191) rfl (fun _ => kk _ _ _ H locs hc1 hm1 hw1 hP hP2 hS) (fun h => absurd rfl h)
theorem lw_grips (F : zLF p s m args c D cy b L xs adC adM) (hR : 1000 ≤ R.frames ∧ 36000 ≤ R.locals) (hf : cells ≤ R.cells ∧ slots ≤ R.slots) (hi : i + 6 ≤ L) (hl : lv_has ls 4 (z_lls adC adM b i)) (hc : cG σ g) (hm : mG τ g) (hw : gW g) (hP : va_P D vwCl (z_ws YC adC cy σ) H) (hP2 : va_P D vwCl (z_ws YM adM cy τ) H) (hS : va_S (fun q => s.heap.size ≤ q) s.heap H locs)
    (kk : ∀ (σ τ : z_Mem) (g : zG) (H : Heap) (locs : List Loc), cG σ g → mG τ g → gW g → va_P D vwCl (z_ws YC adC cy σ) H → va_P D vwCl (z_ws YM adM cy τ) H → va_S (fun q => s.heap.size ≤ q) s.heap H locs → W p l e R s m args below meth c H locs cells slots Q (F0 m 1191 ls [])) : W p l e R s m args below meth c H locs cells slots Q (F0 m 299 ls []) := by
  obtain ⟨hx, hb, hml, hown, hts, hK, hX, hbl, hL, hij, hij2, hA, hA2, hap, hE, hE2⟩ := id F
  obtain ⟨r, g1, hw1, ⟨r1, σ1, e1, h1, hc1⟩, ⟨r2, τ1, e2, h2, hm1⟩⟩ := p_grips hc hm hw (xs (i + 1)) (xs (i + 2))
  subst h1
  subst h2
  refine lv_aload_n hx hb dL_law_299 rfl (lv_at hl 2 rfl) ?_
  refine lw_arg (k := 1) F hS hl (by omega) rfl dL_law_300 dL_law_301 dL_law_302 dL_law_303 dL_law_304 ?_
  refine lw_arg (k := 2) F hS hl (by omega) rfl dL_law_305 dL_law_306 dL_law_307 dL_law_308 dL_law_309 ?_
  refine lw_call (Y := YC) (Y2 := YM) (ad := adC) (ad2 := adM) (σ := σ) (τ := τ) (kc := 0) (M' := mX5_grips) (n := 2) (av := [zI (xs (i + 1)), zI (xs (i + 2))]) (d := 4) (mk' := z_i) ⟨hx, hb, hml, hown, hts⟩ hK hij hA (fun q h z => hap q z h) hE dL_law_310 ⟨(zs21 _ (List.mem_of_getElem? (i := 14) rfl)), (zs1 _ (List.mem_of_getElem? (i := 2) rfl)), (zs21 _ (List.mem_of_getElem? (i := 17) rfl))⟩ (zs21 _ (List.mem_of_getElem? (i := 15) rfl)) (zs21 _ (List.mem_of_getElem? (i := 16) rfl)) yc_0 rfl (by decide +kernel) rfl ⟨by omega, Nat.le_trans (m := 36000) (Nat.le_of_ble_eq_true rfl) hR.2⟩ hf hl.1 (by decide) (kX5_grips (xs (i + 1)) (xs (i + 2)) σ 4 (by decide)) e1 hP hP2 hS (fun H locs hP hP2 hS => ?_)
  refine W.eq (g2 := F0 m 313 ls [.int _]) rfl ?_
  refine lv_aload_n hx hb dL_law_313 rfl (lv_at hl 1 rfl) ?_
  refine lw_arg (k := 1) F hS hl (by omega) rfl dL_law_314 dL_law_315 dL_law_316 dL_law_317 dL_law_318 ?_
  refine lw_arg (k := 2) F hS hl (by omega) rfl dL_law_319 dL_law_320 dL_law_321 dL_law_322 dL_law_323 ?_
  refine lw_call (Y := YM) (Y2 := YC) (ad := adM) (ad2 := adC) (σ := τ) (τ := σ1) (kc := 0) (M' := mX6_grips) (n := 2) (av := [zI (xs (i + 1)), zI (xs (i + 2))]) (d := 73) (mk' := z_i) ⟨hx, hb, hml, hown, hts⟩ hK hij2 hA2 hap hE2 dL_law_324 ⟨(zs21 _ (List.mem_of_getElem? (i := 19) rfl)), (zs1 _ (List.mem_of_getElem? (i := 5) rfl)), (zs21 _ (List.mem_of_getElem? (i := 22) rfl))⟩ (zs21 _ (List.mem_of_getElem? (i := 20) rfl)) (zs21 _ (List.mem_of_getElem? (i := 21) rfl)) ym_0 rfl (by decide +kernel) rfl ⟨by omega, Nat.le_trans (m := 36000) (Nat.le_of_ble_eq_true rfl) hR.2⟩ hf hl.1 (by simp [Value.category]) (kX6_grips (xs (i + 1)) (xs (i + 2)) τ 73 (by decide)) e2 hP2 hP hS (fun H locs hP2 hP hS => ?_)
  refine W.eq (g2 := F0 m 327 ls [.int _, .int _]) rfl ?_
  exact lv_icmp_eq hx hb dL_law_327 (tgt := 1191) rfl (fun _ => kk _ _ _ H locs hc1 hm1 hw1 hP hP2 hS) (fun h => absurd rfl h)
theorem lw_hands (F : zLF p s m args c D cy b L xs adC adM) (hR : 1000 ≤ R.frames ∧ 36000 ≤ R.locals) (hf : cells ≤ R.cells ∧ slots ≤ R.slots) (hi : i + 6 ≤ L) (hl : lv_has ls 4 (z_lls adC adM b i)) (hc : cG σ g) (hm : mG τ g) (hw : gW g) (hP : va_P D vwCl (z_ws YC adC cy σ) H) (hP2 : va_P D vwCl (z_ws YM adM cy τ) H) (hS : va_S (fun q => s.heap.size ≤ q) s.heap H locs)
    (kk : ∀ (σ τ : z_Mem) (g : zG) (H : Heap) (locs : List Loc), cG σ g → mG τ g → gW g → va_P D vwCl (z_ws YC adC cy σ) H → va_P D vwCl (z_ws YM adM cy τ) H → va_S (fun q => s.heap.size ≤ q) s.heap H locs → W p l e R s m args below meth c H locs cells slots Q (F0 m 1191 ls [])) : W p l e R s m args below meth c H locs cells slots Q (F0 m 332 ls []) := by
  obtain ⟨hx, hb, hml, hown, hts, hK, hX, hbl, hL, hij, hij2, hA, hA2, hap, hE, hE2⟩ := id F
  obtain ⟨r, g1, hw1, ⟨r1, σ1, e1, h1, hc1⟩, ⟨r2, τ1, e2, h2, hm1⟩⟩ := p_hands hc hm hw (xs (i + 1)) (xs (i + 2))
  subst h1
  subst h2
  refine lv_aload_n hx hb dL_law_332 rfl (lv_at hl 2 rfl) ?_
  refine lw_arg (k := 1) F hS hl (by omega) rfl dL_law_333 dL_law_334 dL_law_335 dL_law_336 dL_law_337 ?_
  refine lw_arg (k := 2) F hS hl (by omega) rfl dL_law_338 dL_law_339 dL_law_340 dL_law_341 dL_law_342 ?_
  refine lw_call (Y := YC) (Y2 := YM) (ad := adC) (ad2 := adM) (σ := σ) (τ := τ) (kc := 0) (M' := mX5_hands) (n := 2) (av := [zI (xs (i + 1)), zI (xs (i + 2))]) (d := 4) (mk' := z_i) ⟨hx, hb, hml, hown, hts⟩ hK hij hA (fun q h z => hap q z h) hE dL_law_343 ⟨(zs22 _ (List.mem_of_getElem? (i := 3) rfl)), (zs1 _ (List.mem_of_getElem? (i := 2) rfl)), (zs22 _ (List.mem_of_getElem? (i := 6) rfl))⟩ (zs22 _ (List.mem_of_getElem? (i := 4) rfl)) (zs22 _ (List.mem_of_getElem? (i := 5) rfl)) yc_0 rfl (by decide +kernel) rfl ⟨by omega, Nat.le_trans (m := 36000) (Nat.le_of_ble_eq_true rfl) hR.2⟩ hf hl.1 (by decide) (kX5_hands (xs (i + 1)) (xs (i + 2)) σ 4 (by decide)) e1 hP hP2 hS (fun H locs hP hP2 hS => ?_)
  refine W.eq (g2 := F0 m 346 ls [.int _]) rfl ?_
  refine lv_aload_n hx hb dL_law_346 rfl (lv_at hl 1 rfl) ?_
  refine lw_arg (k := 1) F hS hl (by omega) rfl dL_law_347 dL_law_348 dL_law_349 dL_law_350 dL_law_351 ?_
  refine lw_arg (k := 2) F hS hl (by omega) rfl dL_law_352 dL_law_353 dL_law_354 dL_law_355 dL_law_356 ?_
  refine lw_call (Y := YM) (Y2 := YC) (ad := adM) (ad2 := adC) (σ := τ) (τ := σ1) (kc := 0) (M' := mX6_hands) (n := 2) (av := [zI (xs (i + 1)), zI (xs (i + 2))]) (d := 73) (mk' := z_i) ⟨hx, hb, hml, hown, hts⟩ hK hij2 hA2 hap hE2 dL_law_357 ⟨(zs22 _ (List.mem_of_getElem? (i := 11) rfl)), (zs1 _ (List.mem_of_getElem? (i := 5) rfl)), (zs22 _ (List.mem_of_getElem? (i := 14) rfl))⟩ (zs22 _ (List.mem_of_getElem? (i := 12) rfl)) (zs22 _ (List.mem_of_getElem? (i := 13) rfl)) ym_0 rfl (by decide +kernel) rfl ⟨by omega, Nat.le_trans (m := 36000) (Nat.le_of_ble_eq_true rfl) hR.2⟩ hf hl.1 (by simp [Value.category]) (kX6_hands (xs (i + 1)) (xs (i + 2)) τ 73 (by decide)) e2 hP2 hP hS (fun H locs hP2 hP hS => ?_)
  refine W.eq (g2 := F0 m 360 ls [.int _, .int _]) rfl ?_
  exact lv_icmp_eq hx hb dL_law_360 (tgt := 1191) rfl (fun _ => kk _ _ _ H locs hc1 hm1 hw1 hP hP2 hS) (fun h => absurd rfl h)
theorem lw_feed (F : zLF p s m args c D cy b L xs adC adM) (hR : 1000 ≤ R.frames ∧ 36000 ≤ R.locals) (hf : cells ≤ R.cells ∧ slots ≤ R.slots) (hi : i + 6 ≤ L) (hl : lv_has ls 4 (z_lls adC adM b i)) (hc : cG σ g) (hm : mG τ g) (hw : gW g) (hP : va_P D vwCl (z_ws YC adC cy σ) H) (hP2 : va_P D vwCl (z_ws YM adM cy τ) H) (hS : va_S (fun q => s.heap.size ≤ q) s.heap H locs)
    (kk : ∀ (σ τ : z_Mem) (g : zG) (H : Heap) (locs : List Loc), cG σ g → mG τ g → gW g → va_P D vwCl (z_ws YC adC cy σ) H → va_P D vwCl (z_ws YM adM cy τ) H → va_S (fun q => s.heap.size ≤ q) s.heap H locs → W p l e R s m args below meth c H locs cells slots Q (F0 m 1191 ls [])) : W p l e R s m args below meth c H locs cells slots Q (F0 m 365 ls []) := by
  obtain ⟨hx, hb, hml, hown, hts, hK, hX, hbl, hL, hij, hij2, hA, hA2, hap, hE, hE2⟩ := id F
  obtain ⟨r, g1, hw1, ⟨r1, σ1, e1, h1, hc1⟩, ⟨r2, τ1, e2, h2, hm1⟩⟩ := p_feed hc hm hw (xs (i + 1))
  subst h1
  subst h2
  refine lv_aload_n hx hb dL_law_365 rfl (lv_at hl 2 rfl) ?_
  refine lw_arg (k := 1) F hS hl (by omega) rfl dL_law_366 dL_law_367 dL_law_368 dL_law_369 dL_law_370 ?_
  refine lw_call (Y := YC) (Y2 := YM) (ad := adC) (ad2 := adM) (σ := σ) (τ := τ) (kc := 0) (M' := mX5_feed) (n := 1) (av := [zI (xs (i + 1))]) (d := 2) (mk' := z_i) ⟨hx, hb, hml, hown, hts⟩ hK hij hA (fun q h z => hap q z h) hE dL_law_371 ⟨(zs22 _ (List.mem_of_getElem? (i := 19) rfl)), (zs1 _ (List.mem_of_getElem? (i := 2) rfl)), (zs22 _ (List.mem_of_getElem? (i := 22) rfl))⟩ (zs22 _ (List.mem_of_getElem? (i := 20) rfl)) (zs22 _ (List.mem_of_getElem? (i := 21) rfl)) yc_0 rfl (by decide +kernel) rfl ⟨by omega, Nat.le_trans (m := 36000) (Nat.le_of_ble_eq_true rfl) hR.2⟩ hf hl.1 (by decide) (kX5_feed (xs (i + 1)) σ 2 (by decide)) e1 hP hP2 hS (fun H locs hP hP2 hS => ?_)
  refine W.eq (g2 := F0 m 374 ls [.int _]) rfl ?_
  refine lv_aload_n hx hb dL_law_374 rfl (lv_at hl 1 rfl) ?_
  refine lw_arg (k := 1) F hS hl (by omega) rfl dL_law_375 dL_law_376 dL_law_377 dL_law_378 dL_law_379 ?_
  refine lw_call (Y := YM) (Y2 := YC) (ad := adM) (ad2 := adC) (σ := τ) (τ := σ1) (kc := 0) (M' := mX6_feed) (n := 1) (av := [zI (xs (i + 1))]) (d := 2) (mk' := z_i) ⟨hx, hb, hml, hown, hts⟩ hK hij2 hA2 hap hE2 dL_law_380 ⟨(zs23 _ (List.mem_of_getElem? (i := 0) rfl)), (zs1 _ (List.mem_of_getElem? (i := 5) rfl)), (zs23 _ (List.mem_of_getElem? (i := 3) rfl))⟩ (zs23 _ (List.mem_of_getElem? (i := 1) rfl)) (zs23 _ (List.mem_of_getElem? (i := 2) rfl)) ym_0 rfl (by decide +kernel) rfl ⟨by omega, Nat.le_trans (m := 36000) (Nat.le_of_ble_eq_true rfl) hR.2⟩ hf hl.1 (by simp [Value.category]) (kX6_feed (xs (i + 1)) τ 2 (by decide)) e2 hP2 hP hS (fun H locs hP2 hP hS => ?_)
  refine W.eq (g2 := F0 m 383 ls [.int _, .int _]) rfl ?_
  exact lv_icmp_eq hx hb dL_law_383 (tgt := 1191) rfl (fun _ => kk _ _ _ H locs hc1 hm1 hw1 hP hP2 hS) (fun h => absurd rfl h)
theorem lw_text (F : zLF p s m args c D cy b L xs adC adM) (hR : 1000 ≤ R.frames ∧ 36000 ≤ R.locals) (hf : cells ≤ R.cells ∧ slots ≤ R.slots) (hi : i + 6 ≤ L) (hl : lv_has ls 4 (z_lls adC adM b i)) (hc : cG σ g) (hm : mG τ g) (hw : gW g) (hP : va_P D vwCl (z_ws YC adC cy σ) H) (hP2 : va_P D vwCl (z_ws YM adM cy τ) H) (hS : va_S (fun q => s.heap.size ≤ q) s.heap H locs)
    (kk : ∀ (σ τ : z_Mem) (g : zG) (H : Heap) (locs : List Loc), cG σ g → mG τ g → gW g → va_P D vwCl (z_ws YC adC cy σ) H → va_P D vwCl (z_ws YM adM cy τ) H → va_S (fun q => s.heap.size ≤ q) s.heap H locs → W p l e R s m args below meth c H locs cells slots Q (F0 m 1191 ls [])) : W p l e R s m args below meth c H locs cells slots Q (F0 m 388 ls []) := by
  obtain ⟨hx, hb, hml, hown, hts, hK, hX, hbl, hL, hij, hij2, hA, hA2, hap, hE, hE2⟩ := id F
  obtain ⟨r, g1, hw1, ⟨r1, σ1, e1, h1, hc1⟩, ⟨r2, τ1, e2, h2, hm1⟩⟩ := p_text hc hm hw 
  subst h1
  subst h2
  refine lv_aload_n hx hb dL_law_388 rfl (lv_at hl 2 rfl) ?_
  refine lw_call (Y := YC) (Y2 := YM) (ad := adC) (ad2 := adM) (σ := σ) (τ := τ) (kc := 0) (M' := mX5_text) (n := 0) (av := []) (d := 74) (mk' := z_i) ⟨hx, hb, hml, hown, hts⟩ hK hij hA (fun q h z => hap q z h) hE dL_law_389 ⟨(zs23 _ (List.mem_of_getElem? (i := 6) rfl)), (zs1 _ (List.mem_of_getElem? (i := 2) rfl)), (zs23 _ (List.mem_of_getElem? (i := 9) rfl))⟩ (zs23 _ (List.mem_of_getElem? (i := 7) rfl)) (zs23 _ (List.mem_of_getElem? (i := 8) rfl)) yc_0 rfl (by decide +kernel) rfl ⟨by omega, Nat.le_trans (m := 36000) (Nat.le_of_ble_eq_true rfl) hR.2⟩ hf hl.1 (by decide) (kX5_text  σ 74 (by decide)) e1 hP hP2 hS (fun H locs hP hP2 hS => ?_)
  refine W.eq (g2 := F0 m 392 ls [.int _]) rfl ?_
  refine lv_aload_n hx hb dL_law_392 rfl (lv_at hl 1 rfl) ?_
  refine lw_call (Y := YM) (Y2 := YC) (ad := adM) (ad2 := adC) (σ := τ) (τ := σ1) (kc := 0) (M' := mX6_text) (n := 0) (av := []) (d := 71) (mk' := z_i) ⟨hx, hb, hml, hown, hts⟩ hK hij2 hA2 hap hE2 dL_law_393 ⟨(zs23 _ (List.mem_of_getElem? (i := 11) rfl)), (zs1 _ (List.mem_of_getElem? (i := 5) rfl)), (zs23 _ (List.mem_of_getElem? (i := 14) rfl))⟩ (zs23 _ (List.mem_of_getElem? (i := 12) rfl)) (zs23 _ (List.mem_of_getElem? (i := 13) rfl)) ym_0 rfl (by decide +kernel) rfl ⟨by omega, Nat.le_trans (m := 36000) (Nat.le_of_ble_eq_true rfl) hR.2⟩ hf hl.1 (by simp [Value.category]) (kX6_text  τ 71 (by decide)) e2 hP2 hP hS (fun H locs hP2 hP hS => ?_)
  refine W.eq (g2 := F0 m 396 ls [.int _, .int _]) rfl ?_
  exact lv_icmp_eq hx hb dL_law_396 (tgt := 1191) rfl (fun _ => kk _ _ _ H locs hc1 hm1 hw1 hP hP2 hS) (fun h => absurd rfl h)
theorem lw_force (F : zLF p s m args c D cy b L xs adC adM) (hR : 1000 ≤ R.frames ∧ 36000 ≤ R.locals) (hf : cells ≤ R.cells ∧ slots ≤ R.slots) (hi : i + 6 ≤ L) (hl : lv_has ls 4 (z_lls adC adM b i)) (hc : cG σ g) (hm : mG τ g) (hw : gW g) (hP : va_P D vwCl (z_ws YC adC cy σ) H) (hP2 : va_P D vwCl (z_ws YM adM cy τ) H) (hS : va_S (fun q => s.heap.size ≤ q) s.heap H locs)
    (kk : ∀ (σ τ : z_Mem) (g : zG) (H : Heap) (locs : List Loc), cG σ g → mG τ g → gW g → va_P D vwCl (z_ws YC adC cy σ) H → va_P D vwCl (z_ws YM adM cy τ) H → va_S (fun q => s.heap.size ≤ q) s.heap H locs → W p l e R s m args below meth c H locs cells slots Q (F0 m 1191 ls [])) : W p l e R s m args below meth c H locs cells slots Q (F0 m 401 ls []) := by
  obtain ⟨hx, hb, hml, hown, hts, hK, hX, hbl, hL, hij, hij2, hA, hA2, hap, hE, hE2⟩ := id F
  obtain ⟨r, g1, hw1, ⟨r1, σ1, e1, h1, hc1⟩, ⟨r2, τ1, e2, h2, hm1⟩⟩ := p_force hc hm hw (xs (i + 1))
  subst h1
  subst h2
  refine lv_aload_n hx hb dL_law_401 rfl (lv_at hl 2 rfl) ?_
  refine lw_arg (k := 1) F hS hl (by omega) rfl dL_law_402 dL_law_403 dL_law_404 dL_law_405 dL_law_406 ?_
  refine lw_call (Y := YC) (Y2 := YM) (ad := adC) (ad2 := adM) (σ := σ) (τ := τ) (kc := 0) (M' := mX5_force) (n := 1) (av := [zI (xs (i + 1))]) (d := 1) (mk' := z_i) ⟨hx, hb, hml, hown, hts⟩ hK hij hA (fun q h z => hap q z h) hE dL_law_407 ⟨(zs23 _ (List.mem_of_getElem? (i := 15) rfl)), (zs1 _ (List.mem_of_getElem? (i := 2) rfl)), (zs23 _ (List.mem_of_getElem? (i := 18) rfl))⟩ (zs23 _ (List.mem_of_getElem? (i := 16) rfl)) (zs23 _ (List.mem_of_getElem? (i := 17) rfl)) yc_0 rfl (by decide +kernel) rfl ⟨by omega, Nat.le_trans (m := 36000) (Nat.le_of_ble_eq_true rfl) hR.2⟩ hf hl.1 (by decide) (kX5_force (xs (i + 1)) σ 1 (by decide)) e1 hP hP2 hS (fun H locs hP hP2 hS => ?_)
  refine W.eq (g2 := F0 m 410 ls [.int _]) rfl ?_
  refine lv_aload_n hx hb dL_law_410 rfl (lv_at hl 1 rfl) ?_
  refine lw_arg (k := 1) F hS hl (by omega) rfl dL_law_411 dL_law_412 dL_law_413 dL_law_414 dL_law_415 ?_
  refine lw_call (Y := YM) (Y2 := YC) (ad := adM) (ad2 := adC) (σ := τ) (τ := σ1) (kc := 0) (M' := mX6_force) (n := 1) (av := [zI (xs (i + 1))]) (d := 2) (mk' := z_i) ⟨hx, hb, hml, hown, hts⟩ hK hij2 hA2 hap hE2 dL_law_416 ⟨(zs23 _ (List.mem_of_getElem? (i := 20) rfl)), (zs1 _ (List.mem_of_getElem? (i := 5) rfl)), (zs23 _ (List.mem_of_getElem? (i := 23) rfl))⟩ (zs23 _ (List.mem_of_getElem? (i := 21) rfl)) (zs23 _ (List.mem_of_getElem? (i := 22) rfl)) ym_0 rfl (by decide +kernel) rfl ⟨by omega, Nat.le_trans (m := 36000) (Nat.le_of_ble_eq_true rfl) hR.2⟩ hf hl.1 (by simp [Value.category]) (kX6_force (xs (i + 1)) τ 2 (by decide)) e2 hP2 hP hS (fun H locs hP2 hP hS => ?_)
  refine W.eq (g2 := F0 m 419 ls [.int _, .int _]) rfl ?_
  exact lv_icmp_eq hx hb dL_law_419 (tgt := 1191) rfl (fun _ => kk _ _ _ H locs hc1 hm1 hw1 hP hP2 hS) (fun h => absurd rfl h)
theorem lw_out (F : zLF p s m args c D cy b L xs adC adM) (hR : 1000 ≤ R.frames ∧ 36000 ≤ R.locals) (hf : cells ≤ R.cells ∧ slots ≤ R.slots) (hi : i + 6 ≤ L) (hl : lv_has ls 4 (z_lls adC adM b i)) (hc : cG σ g) (hm : mG τ g) (hw : gW g) (hP : va_P D vwCl (z_ws YC adC cy σ) H) (hP2 : va_P D vwCl (z_ws YM adM cy τ) H) (hS : va_S (fun q => s.heap.size ≤ q) s.heap H locs)
    (kk : ∀ (σ τ : z_Mem) (g : zG) (H : Heap) (locs : List Loc), cG σ g → mG τ g → gW g → va_P D vwCl (z_ws YC adC cy σ) H → va_P D vwCl (z_ws YM adM cy τ) H → va_S (fun q => s.heap.size ≤ q) s.heap H locs → W p l e R s m args below meth c H locs cells slots Q (F0 m 1191 ls [])) : W p l e R s m args below meth c H locs cells slots Q (F0 m 424 ls []) := by
  obtain ⟨hx, hb, hml, hown, hts, hK, hX, hbl, hL, hij, hij2, hA, hA2, hap, hE, hE2⟩ := id F
  obtain ⟨r, g1, hw1, ⟨r1, σ1, e1, h1, hc1⟩, ⟨r2, τ1, e2, h2, hm1⟩⟩ := p_out hc hm hw (xs (i + 1))
  subst h1
  subst h2
  refine lv_aload_n hx hb dL_law_424 rfl (lv_at hl 2 rfl) ?_
  refine lw_arg (k := 1) F hS hl (by omega) rfl dL_law_425 dL_law_426 dL_law_427 dL_law_428 dL_law_429 ?_
  refine lw_call (Y := YC) (Y2 := YM) (ad := adC) (ad2 := adM) (σ := σ) (τ := τ) (kc := 0) (M' := mX5_out) (n := 1) (av := [zI (xs (i + 1))]) (d := 2) (mk' := z_i) ⟨hx, hb, hml, hown, hts⟩ hK hij hA (fun q h z => hap q z h) hE dL_law_430 ⟨(zs24 _ (List.mem_of_getElem? (i := 0) rfl)), (zs1 _ (List.mem_of_getElem? (i := 2) rfl)), (zs24 _ (List.mem_of_getElem? (i := 3) rfl))⟩ (zs24 _ (List.mem_of_getElem? (i := 1) rfl)) (zs24 _ (List.mem_of_getElem? (i := 2) rfl)) yc_0 rfl (by decide +kernel) rfl ⟨by omega, Nat.le_trans (m := 36000) (Nat.le_of_ble_eq_true rfl) hR.2⟩ hf hl.1 (by decide) (kX5_out (xs (i + 1)) σ 2 (by decide)) e1 hP hP2 hS (fun H locs hP hP2 hS => ?_)
  refine W.eq (g2 := F0 m 433 ls [.int _]) rfl ?_
  refine lv_aload_n hx hb dL_law_433 rfl (lv_at hl 1 rfl) ?_
  refine lw_arg (k := 1) F hS hl (by omega) rfl dL_law_434 dL_law_435 dL_law_436 dL_law_437 dL_law_438 ?_
  refine lw_call (Y := YM) (Y2 := YC) (ad := adM) (ad2 := adC) (σ := τ) (τ := σ1) (kc := 0) (M' := mX6_out) (n := 1) (av := [zI (xs (i + 1))]) (d := 3) (mk' := z_i) ⟨hx, hb, hml, hown, hts⟩ hK hij2 hA2 hap hE2 dL_law_439 ⟨(zs24 _ (List.mem_of_getElem? (i := 8) rfl)), (zs1 _ (List.mem_of_getElem? (i := 5) rfl)), (zs24 _ (List.mem_of_getElem? (i := 11) rfl))⟩ (zs24 _ (List.mem_of_getElem? (i := 9) rfl)) (zs24 _ (List.mem_of_getElem? (i := 10) rfl)) ym_0 rfl (by decide +kernel) rfl ⟨by omega, Nat.le_trans (m := 36000) (Nat.le_of_ble_eq_true rfl) hR.2⟩ hf hl.1 (by simp [Value.category]) (kX6_out (xs (i + 1)) τ 3 (by decide)) e2 hP2 hP hS (fun H locs hP2 hP hS => ?_)
  refine W.eq (g2 := F0 m 442 ls [.int _, .int _]) rfl ?_
  exact lv_icmp_eq hx hb dL_law_442 (tgt := 1191) rfl (fun _ => kk _ _ _ H locs hc1 hm1 hw1 hP hP2 hS) (fun h => absurd rfl h)
theorem lw_into (F : zLF p s m args c D cy b L xs adC adM) (hR : 1000 ≤ R.frames ∧ 36000 ≤ R.locals) (hf : cells ≤ R.cells ∧ slots ≤ R.slots) (hi : i + 6 ≤ L) (hl : lv_has ls 4 (z_lls adC adM b i)) (hc : cG σ g) (hm : mG τ g) (hw : gW g) (hP : va_P D vwCl (z_ws YC adC cy σ) H) (hP2 : va_P D vwCl (z_ws YM adM cy τ) H) (hS : va_S (fun q => s.heap.size ≤ q) s.heap H locs)
    (kk : ∀ (σ τ : z_Mem) (g : zG) (H : Heap) (locs : List Loc), cG σ g → mG τ g → gW g → va_P D vwCl (z_ws YC adC cy σ) H → va_P D vwCl (z_ws YM adM cy τ) H → va_S (fun q => s.heap.size ≤ q) s.heap H locs → W p l e R s m args below meth c H locs cells slots Q (F0 m 1191 ls [])) : W p l e R s m args below meth c H locs cells slots Q (F0 m 447 ls []) := by
  obtain ⟨hx, hb, hml, hown, hts, hK, hX, hbl, hL, hij, hij2, hA, hA2, hap, hE, hE2⟩ := id F
  obtain ⟨r, g1, hw1, ⟨r1, σ1, e1, h1, hc1⟩, ⟨r2, τ1, e2, h2, hm1⟩⟩ := p_into hc hm hw (xs (i + 1)) (xs (i + 2))
  subst h1
  subst h2
  refine lv_aload_n hx hb dL_law_447 rfl (lv_at hl 2 rfl) ?_
  refine lw_arg (k := 1) F hS hl (by omega) rfl dL_law_448 dL_law_449 dL_law_450 dL_law_451 dL_law_452 ?_
  refine lw_arg (k := 2) F hS hl (by omega) rfl dL_law_453 dL_law_454 dL_law_455 dL_law_456 dL_law_457 ?_
  refine lw_call (Y := YC) (Y2 := YM) (ad := adC) (ad2 := adM) (σ := σ) (τ := τ) (kc := 0) (M' := mX5_into) (n := 2) (av := [zI (xs (i + 1)), zI (xs (i + 2))]) (d := 2) (mk' := z_i) ⟨hx, hb, hml, hown, hts⟩ hK hij hA (fun q h z => hap q z h) hE dL_law_458 ⟨(zs24 _ (List.mem_of_getElem? (i := 16) rfl)), (zs1 _ (List.mem_of_getElem? (i := 2) rfl)), (zs24 _ (List.mem_of_getElem? (i := 19) rfl))⟩ (zs24 _ (List.mem_of_getElem? (i := 17) rfl)) (zs24 _ (List.mem_of_getElem? (i := 18) rfl)) yc_0 rfl (by decide +kernel) rfl ⟨by omega, Nat.le_trans (m := 36000) (Nat.le_of_ble_eq_true rfl) hR.2⟩ hf hl.1 (by decide) (kX5_into (xs (i + 1)) (xs (i + 2)) σ 2 (by decide)) e1 hP hP2 hS (fun H locs hP hP2 hS => ?_)
  refine W.eq (g2 := F0 m 461 ls [.int _]) rfl ?_
  refine lv_aload_n hx hb dL_law_461 rfl (lv_at hl 1 rfl) ?_
  refine lw_arg (k := 1) F hS hl (by omega) rfl dL_law_462 dL_law_463 dL_law_464 dL_law_465 dL_law_466 ?_
  refine lw_arg (k := 2) F hS hl (by omega) rfl dL_law_467 dL_law_468 dL_law_469 dL_law_470 dL_law_471 ?_
  refine lw_call (Y := YM) (Y2 := YC) (ad := adM) (ad2 := adC) (σ := τ) (τ := σ1) (kc := 0) (M' := mX6_into) (n := 2) (av := [zI (xs (i + 1)), zI (xs (i + 2))]) (d := 3) (mk' := z_i) ⟨hx, hb, hml, hown, hts⟩ hK hij2 hA2 hap hE2 dL_law_472 ⟨(zs24 _ (List.mem_of_getElem? (i := 22) rfl)), (zs1 _ (List.mem_of_getElem? (i := 5) rfl)), (zs25 _ (List.mem_of_getElem? (i := 1) rfl))⟩ (zs24 _ (List.mem_of_getElem? (i := 23) rfl)) (zs25 _ (List.mem_of_getElem? (i := 0) rfl)) ym_0 rfl (by decide +kernel) rfl ⟨by omega, Nat.le_trans (m := 36000) (Nat.le_of_ble_eq_true rfl) hR.2⟩ hf hl.1 (by simp [Value.category]) (kX6_into (xs (i + 1)) (xs (i + 2)) τ 3 (by decide)) e2 hP2 hP hS (fun H locs hP2 hP hS => ?_)
  refine W.eq (g2 := F0 m 475 ls [.int _, .int _]) rfl ?_
  exact lv_icmp_eq hx hb dL_law_475 (tgt := 1191) rfl (fun _ => kk _ _ _ H locs hc1 hm1 hw1 hP hP2 hS) (fun h => absurd rfl h)
theorem lw_swap (F : zLF p s m args c D cy b L xs adC adM) (hR : 1000 ≤ R.frames ∧ 36000 ≤ R.locals) (hf : cells ≤ R.cells ∧ slots ≤ R.slots) (hi : i + 6 ≤ L) (hl : lv_has ls 4 (z_lls adC adM b i)) (hc : cG σ g) (hm : mG τ g) (hw : gW g) (hP : va_P D vwCl (z_ws YC adC cy σ) H) (hP2 : va_P D vwCl (z_ws YM adM cy τ) H) (hS : va_S (fun q => s.heap.size ≤ q) s.heap H locs)
    (kk : ∀ (σ τ : z_Mem) (g : zG) (H : Heap) (locs : List Loc), cG σ g → mG τ g → gW g → va_P D vwCl (z_ws YC adC cy σ) H → va_P D vwCl (z_ws YM adM cy τ) H → va_S (fun q => s.heap.size ≤ q) s.heap H locs → W p l e R s m args below meth c H locs cells slots Q (F0 m 1191 ls [])) : W p l e R s m args below meth c H locs cells slots Q (F0 m 480 ls []) := by
  obtain ⟨hx, hb, hml, hown, hts, hK, hX, hbl, hL, hij, hij2, hA, hA2, hap, hE, hE2⟩ := id F
  obtain ⟨r, g1, hw1, ⟨r1, σ1, e1, h1, hc1⟩, ⟨r2, τ1, e2, h2, hm1⟩⟩ := p_swap hc hm hw (xs (i + 1)) (xs (i + 2))
  subst h1
  subst h2
  refine lv_aload_n hx hb dL_law_480 rfl (lv_at hl 2 rfl) ?_
  refine lw_arg (k := 1) F hS hl (by omega) rfl dL_law_481 dL_law_482 dL_law_483 dL_law_484 dL_law_485 ?_
  refine lw_arg (k := 2) F hS hl (by omega) rfl dL_law_486 dL_law_487 dL_law_488 dL_law_489 dL_law_490 ?_
  refine lw_call (Y := YC) (Y2 := YM) (ad := adC) (ad2 := adM) (σ := σ) (τ := τ) (kc := 0) (M' := mX5_swap) (n := 2) (av := [zI (xs (i + 1)), zI (xs (i + 2))]) (d := 6) (mk' := z_i) ⟨hx, hb, hml, hown, hts⟩ hK hij hA (fun q h z => hap q z h) hE dL_law_491 ⟨(zs25 _ (List.mem_of_getElem? (i := 6) rfl)), (zs1 _ (List.mem_of_getElem? (i := 2) rfl)), (zs25 _ (List.mem_of_getElem? (i := 9) rfl))⟩ (zs25 _ (List.mem_of_getElem? (i := 7) rfl)) (zs25 _ (List.mem_of_getElem? (i := 8) rfl)) yc_0 rfl (by decide +kernel) rfl ⟨by omega, Nat.le_trans (m := 36000) (Nat.le_of_ble_eq_true rfl) hR.2⟩ hf hl.1 (by decide) (kX5_swap (xs (i + 1)) (xs (i + 2)) σ 6 (by decide)) e1 hP hP2 hS (fun H locs hP hP2 hS => ?_)
  refine W.eq (g2 := F0 m 494 ls [.int _]) rfl ?_
  refine lv_aload_n hx hb dL_law_494 rfl (lv_at hl 1 rfl) ?_
  refine lw_arg (k := 1) F hS hl (by omega) rfl dL_law_495 dL_law_496 dL_law_497 dL_law_498 dL_law_499 ?_
  refine lw_arg (k := 2) F hS hl (by omega) rfl dL_law_500 dL_law_501 dL_law_502 dL_law_503 dL_law_504 ?_
  refine lw_call (Y := YM) (Y2 := YC) (ad := adM) (ad2 := adC) (σ := τ) (τ := σ1) (kc := 0) (M' := mX6_swap) (n := 2) (av := [zI (xs (i + 1)), zI (xs (i + 2))]) (d := 75) (mk' := z_i) ⟨hx, hb, hml, hown, hts⟩ hK hij2 hA2 hap hE2 dL_law_505 ⟨(zs25 _ (List.mem_of_getElem? (i := 20) rfl)), (zs1 _ (List.mem_of_getElem? (i := 5) rfl)), (zs25 _ (List.mem_of_getElem? (i := 23) rfl))⟩ (zs25 _ (List.mem_of_getElem? (i := 21) rfl)) (zs25 _ (List.mem_of_getElem? (i := 22) rfl)) ym_0 rfl (by decide +kernel) rfl ⟨by omega, Nat.le_trans (m := 36000) (Nat.le_of_ble_eq_true rfl) hR.2⟩ hf hl.1 (by simp [Value.category]) (kX6_swap (xs (i + 1)) (xs (i + 2)) τ 75 (by decide)) e2 hP2 hP hS (fun H locs hP2 hP hS => ?_)
  refine W.eq (g2 := F0 m 508 ls [.int _, .int _]) rfl ?_
  exact lv_icmp_eq hx hb dL_law_508 (tgt := 1191) rfl (fun _ => kk _ _ _ H locs hc1 hm1 hw1 hP hP2 hS) (fun h => absurd rfl h)
end ZLC
