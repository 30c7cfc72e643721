/-! the surroundings, out of what the Statement gives of the start -/
abbrev z_pre : List Cond := flatC (Jvm.Cond.and given_1 narrow_1)
def z_tm (i : Nat) : Term := .string (z_sIdx i).1 (z_sIdx i).2.1
def z_tv (i : Nat) : Term := .field (z_tm i) "java/lang/String" "value" "[B"
set_option maxRecDepth 100000 in
theorem z_p1 : ∀ i, i < 13 → Cond.exactly (z_tm i) "java/lang/String" ∈ z_pre := by decide +kernel
set_option maxRecDepth 100000 in
theorem z_p2 : ∀ i, i < 13 → Cond.eq (.field (z_tm i) "java/lang/String" "coder" "B") (.int 0) ∈ z_pre := by decide +kernel
set_option maxRecDepth 100000 in
theorem z_p3 : ∀ i, i < 13 → Cond.arrayOf (z_tv i) .byte ∈ z_pre := by decide +kernel
set_option maxRecDepth 100000 in
theorem z_p4 : ∀ i, i < 13 → Cond.eq (.length (z_tv i)) (.int (Int32.ofNat (z_len.getD i 0))) ∈ z_pre := by decide +kernel
set_option maxRecDepth 100000 in
theorem z_p5 : ∀ i, i < 13 → ∀ j, j < z_len.getD i 0 → Cond.eq (.elem (z_tv i) (.int (Int32.ofNat j))) (.int ((z_byt.getD i []).getD j 0)) ∈ z_pre := by decide +kernel
set_option maxRecDepth 100000 in
theorem z_p6 : ∀ j, j < 13 → ∀ i, i < j → Cond.not (Cond.eq (z_tm i) (z_tm j)) ∈ z_pre := by decide +kernel
theorem z_p7 : ∀ i, i < 13 → z_len.getD i 0 < 2 ^ 31 := by decide
set_option maxRecDepth 100000 in
theorem z_p8a : Cond.arrayOf (.static RX5 "KIND_ABOVE" "[I") .int ∈ z_pre := by decide +kernel
set_option maxRecDepth 100000 in
theorem z_p9 : Cond.eq (.length (.static RX5 "KIND_ABOVE" "[I")) (.int (Int32.ofNat 6)) ∈ z_pre := by decide +kernel
set_option maxRecDepth 100000 in
theorem z_p10 : ∀ j, j < 6 → Cond.eq (.elem (.static RX5 "KIND_ABOVE" "[I") (.int (Int32.ofNat j))) (.int (z_ka j)) ∈ z_pre := by decide +kernel
set_option maxRecDepth 100000 in
theorem z_p11 : Cond.eq (.static "java/lang/String" "COMPACT_STRINGS" "Z") (.int 1) ∈ z_pre := by decide +kernel
set_option maxRecDepth 100000 in
theorem z_p12 : Cond.isRef (.static "jdk/internal/util/Preconditions" "SIOOBE_FORMATTER" "Ljava/util/function/BiFunction;") ∈ z_pre := by decide +kernel
set_option maxRecDepth 100000 in
theorem z_t1 : ∀ i, i < 13 → Cond.stringRef (z_sIdx i).1 (z_sIdx i).2.1 (z_sIdx i).2.2 ∈ tables_1 := by decide +kernel
set_option maxRecDepth 100000 in
theorem z_t2 : Cond.laysStatic RX5 "KIND_ABOVE" "[I" ∈ tables_1 ∧ Cond.initialized RX5 ∈ tables_1 ∧ Cond.laysStatic "java/lang/String" "COMPACT_STRINGS" "Z" ∈ tables_1 ∧ Cond.initialized "java/lang/String" ∈ tables_1 ∧ Cond.laysStatic "jdk/internal/util/Preconditions" "SIOOBE_FORMATTER" "Ljava/util/function/BiFunction;" ∈ tables_1 ∧ Cond.initialized "jdk/internal/util/Preconditions" ∈ tables_1 := by decide +kernel
set_option maxRecDepth 100000 in
theorem z_t3 : Cond.methodLinkNest RX0 101 yX5_bounded RX5 ∈ tables_1 ∧ Cond.methodLinkNest RX0 107 yX5_isUnder RX5 ∈ tables_1 ∧ Cond.methodLinkNest RX5 11 yX4_init RX5 ∈ tables_1 ∧ Cond.methodLinkNest RX5 40 yX1_init RX5 ∈ tables_1 ∧ Cond.methodLinkNest RX5 51 yX3_init RX5 ∈ tables_1 ∧ Cond.arrayOver (.object RX3) ∈ tables_1 := by decide +kernel
theorem z_env0 {b : Nat} {s : State} (hts : ∀ w ∈ lw_tbl, w.before #[Value.ref b] s = true) (hgv : (Jvm.Cond.and given_1 narrow_1).before #[Value.ref b] s = true) : ∃ e0 : Nat → Nat, z_Env e0 (fun q => s.heap.size ≤ q) s s.heap ∧ va_AO RX3 s ∧ va_Nw (.methodLinkNest RX5 11 yX4_init RX5) s ∧ va_Nw (.methodLinkNest RX5 40 yX1_init RX5) s ∧ va_Nw (.methodLinkNest RX5 51 yX3_init RX5) s := by
  have hs := flat_of_before _ hgv
  have ht : ∀ w ∈ tables_1, w.before #[Value.ref b] s = true := fun w hw => hts w (List.mem_append_right _ hw)
  have hA : ∀ a : Nat, a < s.heap.size → ¬ (fun q => s.heap.size ≤ q) a := fun a h => Nat.not_le.mpr h
  obtain ⟨adK, adV, hS, hev⟩ := vk_Sof (tm := z_tm) (len := z_len) (byt := z_byt) (A := fun q => s.heap.size ≤ q) z_p7 (fun i hi => hs _ (z_p1 i hi)) (fun i hi => hs _ (z_p2 i hi)) (fun i hi => hs _ (z_p3 i hi)) (fun i hi => hs _ (z_p4 i hi)) (fun i hi j hj => hs _ (z_p5 i hi j hj)) (fun i j hi hj hij => by
    rcases Nat.lt_or_ge i j with h | h
    · exact Or.inl (hs _ (z_p6 j hj i h))
    · exact Or.inr (hs _ (z_p6 i hi j (by omega)))) hA
  obtain ⟨t, hte, hT⟩ := va_Tof (tm := .static RX5 "KIND_ABOVE" "[I") (ty := .int) (N := 6) (f := fun j => .int (z_ka j)) (A := fun q => s.heap.size ≤ q) (by decide) (hs _ z_p8a) (va_eqt (hs _ z_p9)) (fun j hj => va_eqt (hs _ (z_p10 j hj))) hA
  obtain ⟨a1, a2, a3, a4, a5, a6⟩ := z_t2
  obtain ⟨n1, n2, n3, n4, n5, n6⟩ := z_t3
  refine ⟨fun k => if k = 2000 then t else if 1100 ≤ k then adV (k - 1100) else adK (k - 1000), ⟨va_Nw.of rfl (ht _ n1), va_Nw.of rfl (ht _ n2), va_Zref (ht _ a1) (ht _ a2) hte hA, hT, fun i hi => ?_, ⟨fun i hi => ?_, fun i j hi hj h => ?_⟩, va_Zof (ht _ a3) (ht _ a4) (va_eqt (hs _ z_p11)) hA, va_Zqof (ht _ a5) (ht _ a6) (hs _ z_p12) hA⟩, va_AO.of (ht _ n6), va_Nw.of rfl (ht _ n3), va_Nw.of rfl (ht _ n4), va_Nw.of rfl (ht _ n5)⟩
  · have e : (if 1000 + i = 2000 then t else if 1100 ≤ 1000 + i then adV (1000 + i - 1100) else adK (1000 + i - 1000)) = adK i := by
      rw [if_neg (show ¬ 1000 + i = 2000 by omega), if_neg (show ¬ 1100 ≤ 1000 + i by omega), Nat.add_sub_cancel_left]
    show vk_R _ _ _ (if 1000 + i = 2000 then t else if 1100 ≤ 1000 + i then adV (1000 + i - 1100) else adK (1000 + i - 1000)) s
    rw [e]
    exact vk_R.of (ht _ (z_t1 i hi)) (hev i hi)
  · have e : (if 1000 + i = 2000 then t else if 1100 ≤ 1000 + i then adV (1000 + i - 1100) else adK (1000 + i - 1000)) = adK i := by
      rw [if_neg (show ¬ 1000 + i = 2000 by omega), if_neg (show ¬ 1100 ≤ 1000 + i by omega), Nat.add_sub_cancel_left]
    have e2 : (if 1100 + i = 2000 then t else if 1100 ≤ 1100 + i then adV (1100 + i - 1100) else adK (1100 + i - 1000)) = adV i := by
      rw [if_neg (show ¬ 1100 + i = 2000 by omega), if_pos (show 1100 ≤ 1100 + i by omega), Nat.add_sub_cancel_left]
    have h := hS.1 i hi
    rw [← e, ← e2] at h
    exact h
  · have e : ∀ i, i < 13 → (if 1000 + i = 2000 then t else if 1100 ≤ 1000 + i then adV (1000 + i - 1100) else adK (1000 + i - 1000)) = adK i := by
      intro i hi
      rw [if_neg (show ¬ 1000 + i = 2000 by omega), if_neg (show ¬ 1100 ≤ 1000 + i by omega), Nat.add_sub_cancel_left]
    have h : (if 1000 + i = 2000 then t else if 1100 ≤ 1000 + i then adV (1000 + i - 1100) else adK (1000 + i - 1000)) = (if 1000 + j = 2000 then t else if 1100 ≤ 1000 + j then adV (1000 + j - 1100) else adK (1000 + j - 1000)) := h
    rw [e i hi, e j hj] at h
    exact hS.2 i j hi hj h
