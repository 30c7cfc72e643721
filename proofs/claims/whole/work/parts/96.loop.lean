/-! the loop of the first TEXT -/
/-- as va_S, with the written places in B -/
def z_S2 (A B : Nat → Prop) (H0 H : Heap) (locs : List Loc) : Prop := va_S A H0 H [] ∧ ∀ l ∈ locs, B l.base
theorem z_Snext {A B : Nat → Prop} {H0 H H1 : Heap} {locs L : List Loc} (hAB : ∀ q, A q → B q) (hS : z_S2 A B H0 H locs) (hz : H.size ≤ H1.size) (hk : ∀ q : Nat, q < H.size → ¬ A q → H1[q]? = H[q]?) (hL : ∀ q ∈ L, A q.base) : z_S2 A B H0 H1 (locs ++ L) :=
  ⟨⟨Nat.le_trans hS.1.1 hz, fun q h1 h2 => (hk q (Nat.lt_of_lt_of_le h1 hS.1.1) h2).trans (hS.1.2.1 q h1 h2), fun q hq => by cases hq⟩, fun q hq => (List.mem_append.mp hq).elim (hS.2 q) (fun h => hAB _ (hL q h))⟩
section ZLP
variable {p : Program} {l : Launch} {e : Env} {R : Room} {s : State} {m : MethodId} {args : Array Value} {below : List Frame} {meth : Method} {c : Code} {cells slots : Nat} {Q : State → Prop}
variable {D : va_G} {cy : z_Cy} {ad : Nat → Nat} {B : Nat → Prop}
theorem wX5_lp {t : Nat} (hAB : ∀ q, z_A ad YC.length q → B q) (C0 : z_K0 RX5 cX5_init 3 p s m args meth c D cy) (hij : z_inj YC ad) (hE : z_Env ad (z_A ad YC.length) s s.heap) (hR : 40 ≤ R.frames ∧ 400 ≤ R.locals) (hf : cells ≤ R.cells ∧ slots ≤ R.slots)
    (kk : ∀ (σ : z_Mem) (H : Heap) (locs : List Loc) (ls : Array Slot), cTp σ t0L → (∀ q, q ≠ 5 → q ≠ 6 → σ.1 q = zS0.1 q) → va_P D vwCl (z_ws YC ad cy σ) H → z_S2 (z_A ad YC.length) B s.heap H locs → lv_has ls 3 [(2, .int 43), (1, .ref t), (0, .ref (ad 0))] → W p l e R s m args below meth c H locs cells slots Q (F0 m 141 ls [])) :
    ∀ (k n : Nat), n + k = 43 → ∀ (σ : z_Mem) (H : Heap) (locs : List Loc) (ls : Array Slot), cTp σ (t0L.take n) → (∀ q, q ≠ 5 → q ≠ 6 → σ.1 q = zS0.1 q) → va_P D vwCl (z_ws YC ad cy σ) H → z_S2 (z_A ad YC.length) B s.heap H locs → lv_has ls 3 [(2, .int (nI n)), (1, .ref t), (0, .ref (ad 0))] → W p l e R s m args below meth c H locs cells slots Q (F0 m 112 ls []) := by
  obtain ⟨hx, hb, hml, hown, hts, hK, hin⟩ := id C0
  have hlen : t0L.length = 43 := by decide
  intro k
  induction k with
  | zero =>
    intro n hn σ H locs ls ht h0 hP hS hl
    have : n = 43 := by omega
    subst this
    refine lv_iload_n hx hb dX5_init_112 rfl (lv_at hl 0 rfl) ?_
    refine va_ldcS hx hb hown (hE.2.2.2.2.1 0 (by decide)) dX5_init_113 ?_
    refine wX5_len C0 hij hP hE hS.1 hl.1 (by simp [Value.category]) hR hf (fun H1 L hP1 hz hk hL => ?_)
    refine lv_icmp_ge hx hb dX5_init_118 (tgt := 141) rfl (fun _ => ?_) (fun h => absurd (by decide) h)
    exact kk σ H1 _ ls (by rw [List.take_of_length_le (by omega)] at ht; exact ht) h0 hP1 (z_Snext hAB hS hz hk hL) hl
  | succ k ih =>
    intro n hn σ H locs ls ht h0 hP hS hl
    have hn43 : n < 43 := by omega
    have htl : (t0L.take n).length = n := by rw [List.length_take]; omega
    refine lv_iload_n hx hb dX5_init_112 rfl (lv_at hl 0 rfl) ?_
    refine va_ldcS hx hb hown (hE.2.2.2.2.1 0 (by decide)) dX5_init_113 ?_
    refine wX5_len C0 hij hP hE hS.1 hl.1 (by simp [Value.category]) hR hf (fun H1 L hP1 hz hk hL => ?_)
    have hS1 := z_Snext hAB hS hz hk hL
    refine lv_icmp_ge hx hb dX5_init_118 (tgt := 141) rfl (fun h => absurd h ((by decide : ∀ n, n < 43 → ¬ (43 : Int32) ≤ nI n) n hn43)) (fun _ => ?_)
    refine lv_aload_n hx hb dX5_init_121 rfl (lv_at hl 2 rfl) ?_
    refine va_get (D := D) (ci := 5) (C := RX5) (ref := RX5) (T := TX5) (N := 8) (v := .ref (ad 5)) hx hb hts inlX5 hown hK hP1 0 (z_ws_get yc_0) rfl 1 (by decide) (hts _ (zs1 _ (List.mem_of_getElem? (i := 19) rfl))) (fun _ h => h) rfl dX5_init_122 ?_
    refine va_ldcS hx hb hown (hE.2.2.2.2.1 0 (by decide)) dX5_init_125 ?_
    refine lv_iload_n hx hb dX5_init_127 rfl (lv_at hl 0 rfl) ?_
    refine wX5_ch hn43 C0 hij hP1 hE hS1.1 hl.1 (by simp [Value.category]) hR hf (fun H2 L2 hP2 hz2 hk2 hL2 => ?_)
    have hS2 := z_Snext hAB hS1 hz2 hk2 hL2
    obtain ⟨a1, a2⟩ := c_add (x := t0L.getD n 0) ht (by omega)
    refine z_callW (kc := 5) (M' := mX2_add) (n := 1) (av := [zI (t0L.getD n 0)]) (d := 1) (mk' := z_i) (own := RX5) ⟨hx, hb, hml, hown, hts⟩ dX5_init_131 ⟨zs5 _ (List.mem_of_getElem? (i := 21) rfl), zs1 _ (List.mem_of_getElem? (i := 18) rfl), zs6 _ (List.mem_of_getElem? (i := 0) rfl)⟩ (zs5 _ (List.mem_of_getElem? (i := 22) rfl)) (zs5 _ (List.mem_of_getElem? (i := 23) rfl)) yc_5 rfl (by decide +kernel) rfl ⟨by omega, Nat.le_trans (m := 400) (Nat.le_of_ble_eq_true rfl) hR.2⟩ hf hl.1 (by decide) (kX2_add (t0L.getD n 0) σ 1 (by decide)) a1 hij hP2 hK (hE.kept hS2.1.2.1) (fun H3 L3 hP3 hz3 hk3 hL3 => ?_)
    have hS3 := z_Snext hAB hS2 hz3 hk3 hL3
    refine lv_pop hx hb dX5_init_134 rfl ?_
    refine lv_iinc (lv' := [(2, .int (nI (n + 1))), (1, .ref t), (0, .ref (ad 0))]) hx hb dX5_init_135 hl (k := 0) rfl (nI_1 n) (by decide) rfl (fun ls hl => ?_)
    refine lv_goto hx hb dX5_init_138 (tgt := 112) rfl ?_
    refine ih (n + 1) (by omega) _ H3 _ ls ?_ (fun q h5 h6 => ?_) hP3 hS3 hl
    · have : t0L.take (n + 1) = t0L.take n ++ [t0L.getD n 0] := by
        rw [List.take_succ, List.getD_eq_getElem?_getD, List.getElem?_eq_getElem (by omega)]; rfl
      rw [this]; exact a2
    · rw [← h0 q h5 h6]
      show va_up _ 5 _ q = _
      rw [z_up_ne h5]
      show va_up _ 6 _ q = _
      rw [z_up_ne h6]
end ZLP
