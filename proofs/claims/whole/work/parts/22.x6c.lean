def fX6_laysAside_2  : Nat → Int32 → z_Mem → Option (Unit × z_Mem)
  | 0, _, _ => none
  | q + 1, l1, σ => if (18 : Int32) ≤ l1 then (z_gd (z_in (18 : Int32) 19) (z_st (z_pt σ 7 (z_x (18 : Int32)) (σ.1 0 7)) (fun s1 => some ((), s1)))) else (z_gd (z_in l1 18) (z_gd (z_in l1 19) (z_st (z_pt σ 7 (z_x l1) (σ.1 4 (z_x l1))) (fun s2 => fX6_laysAside_2  q (l1 + 1) s2))))
theorem kX6_laysAside_2 (D : Nat)   (hD : 0 ≤ D) : ∀ (q : Nat) (l1 : Int32)  (σ : z_Mem), z_Go YM mX6_laysAside (D + 1) z_u 2 [some (zR 0), some (zI l1)] [] σ (fX6_laysAside_2 q l1 σ) := by
  intro q
  induction q with
  | zero => intros; exact z_none
  | succ q ih =>
    intro l1 σ
    rw [fX6_laysAside_2]
    refine z_iload_n (pc := 2) dX6_laysAside_2 rfl rfl ?_
    refine z_bipush_18 (pc := 3) dX6_laysAside_3 ?_
    refine z_icmp_ge (tgt := 26) (pc := 5) dX6_laysAside_5 (by decide) (fun _ => ?_) (fun _ => ?_)
    · refine z_aload_n (pc := 26) dX6_laysAside_26 rfl rfl ?_
      refine gfX6_29 (pc := 27) dX6_laysAside_27 ym_0 w_10_13 rfl ?_
      refine z_bipush_18 (pc := 30) dX6_laysAside_30 ?_
      refine z_aload_n (pc := 32) dX6_laysAside_32 rfl rfl ?_
      refine gfX6_7 (pc := 33) dX6_laysAside_33 ym_0 w_13_10 rfl ?_
      refine z_iast (pc := 36) dX6_laysAside_36 ym_7 ?_
      refine z_let (fun s1 => ?_)
      exact z_vret (pc := 37) dX6_laysAside_37 rfl
    · refine z_aload_n (pc := 8) dX6_laysAside_8 rfl rfl ?_
      refine gfX6_29 (pc := 9) dX6_laysAside_9 ym_0 w_10_13 rfl ?_
      refine z_iload_n (pc := 12) dX6_laysAside_12 rfl rfl ?_
      refine z_aload_n (pc := 13) dX6_laysAside_13 rfl rfl ?_
      refine gfX6_9 (pc := 14) dX6_laysAside_14 ym_0 w_10_10 rfl ?_
      refine z_iload_n (pc := 17) dX6_laysAside_17 rfl rfl ?_
      refine z_iald (pc := 18) dX6_laysAside_18 ym_4 ?_
      refine z_iast (pc := 19) dX6_laysAside_19 ym_7 ?_
      refine z_let (fun s2 => ?_)
      refine z_iinc (y := 1) (pc := 20) dX6_laysAside_20 rfl (by decide) (Nat.le_of_ble_eq_true rfl) (z_so2_1 rfl) ?_
      refine z_goto (tgt := 2) (pc := 23) dX6_laysAside_23 (by decide) ?_
      exact ih (l1 + 1) s2
def fX6_laysAside   (σ : z_Mem) : Option (Unit × z_Mem) :=
  fX6_laysAside_2 z_FU (0 : Int32) σ
theorem kX6_laysAside    (σ : z_Mem) (D : Nat) (hD : 1 ≤ D) : z_Call YM mX6_laysAside D z_u [zR 0] σ (fX6_laysAside σ) := by
  obtain ⟨D, rfl⟩ : ∃ E, D = E + 1 := ⟨D - 1, by omega⟩
  replace hD : 0 ≤ D := by omega
  refine z_entry (lv := [some (zR 0), none]) (by decide) rfl (Nat.le_of_ble_eq_true rfl) rfl ?_
  rw [fX6_laysAside]
  refine z_iconst_0 (pc := 0) dX6_laysAside_0 ?_
  refine z_istore_n (pc := 1) dX6_laysAside_1 rfl (Nat.le_of_ble_eq_true rfl) (z_so2_1 rfl) ?_
  exact kX6_laysAside_2 D  hD z_FU (0 : Int32) σ
def fX6_laysBack_2  : Nat → Int32 → z_Mem → Option (Unit × z_Mem)
  | 0, _, _ => none
  | q + 1, l1, σ => if (18 : Int32) ≤ l1 then (z_gd (z_in (18 : Int32) 19) (z_st (z_pt σ 0 7 (σ.1 7 (z_x (18 : Int32)))) (fun s1 => some ((), s1)))) else (z_gd (z_in l1 19) (z_gd (z_in l1 18) (z_st (z_pt σ 4 (z_x l1) (σ.1 7 (z_x l1))) (fun s2 => fX6_laysBack_2  q (l1 + 1) s2))))
theorem kX6_laysBack_2 (D : Nat)   (hD : 0 ≤ D) : ∀ (q : Nat) (l1 : Int32)  (σ : z_Mem), z_Go YM mX6_laysBack (D + 1) z_u 2 [some (zR 0), some (zI l1)] [] σ (fX6_laysBack_2 q l1 σ) := by
  intro q
  induction q with
  | zero => intros; exact z_none
  | succ q ih =>
    intro l1 σ
    rw [fX6_laysBack_2]
    refine z_iload_n (pc := 2) dX6_laysBack_2 rfl rfl ?_
    refine z_bipush_18 (pc := 3) dX6_laysBack_3 ?_
    refine z_icmp_ge (tgt := 26) (pc := 5) dX6_laysBack_5 (by decide) (fun _ => ?_) (fun _ => ?_)
    · refine z_aload_n (pc := 26) dX6_laysBack_26 rfl rfl ?_
      refine z_aload_n (pc := 27) dX6_laysBack_27 rfl rfl ?_
      refine gfX6_29 (pc := 28) dX6_laysBack_28 ym_0 w_10_13 rfl ?_
      refine z_bipush_18 (pc := 31) dX6_laysBack_31 ?_
      refine z_iald (pc := 33) dX6_laysBack_33 ym_7 ?_
      refine pfX6_7 (pc := 34) dX6_laysBack_34 ym_0 w_13_10 rfl ?_
      refine z_let (fun s1 => ?_)
      exact z_vret (pc := 37) dX6_laysBack_37 rfl
    · refine z_aload_n (pc := 8) dX6_laysBack_8 rfl rfl ?_
      refine gfX6_9 (pc := 9) dX6_laysBack_9 ym_0 w_10_10 rfl ?_
      refine z_iload_n (pc := 12) dX6_laysBack_12 rfl rfl ?_
      refine z_aload_n (pc := 13) dX6_laysBack_13 rfl rfl ?_
      refine gfX6_29 (pc := 14) dX6_laysBack_14 ym_0 w_10_13 rfl ?_
      refine z_iload_n (pc := 17) dX6_laysBack_17 rfl rfl ?_
      refine z_iald (pc := 18) dX6_laysBack_18 ym_7 ?_
      refine z_iast (pc := 19) dX6_laysBack_19 ym_4 ?_
      refine z_let (fun s2 => ?_)
      refine z_iinc (y := 1) (pc := 20) dX6_laysBack_20 rfl (by decide) (Nat.le_of_ble_eq_true rfl) (z_so2_1 rfl) ?_
      refine z_goto (tgt := 2) (pc := 23) dX6_laysBack_23 (by decide) ?_
      exact ih (l1 + 1) s2
def fX6_laysBack   (σ : z_Mem) : Option (Unit × z_Mem) :=
  fX6_laysBack_2 z_FU (0 : Int32) σ
theorem kX6_laysBack    (σ : z_Mem) (D : Nat) (hD : 1 ≤ D) : z_Call YM mX6_laysBack D z_u [zR 0] σ (fX6_laysBack σ) := by
  obtain ⟨D, rfl⟩ : ∃ E, D = E + 1 := ⟨D - 1, by omega⟩
  replace hD : 0 ≤ D := by omega
  refine z_entry (lv := [some (zR 0), none]) (by decide) rfl (Nat.le_of_ble_eq_true rfl) rfl ?_
  rw [fX6_laysBack]
  refine z_iconst_0 (pc := 0) dX6_laysBack_0 ?_
  refine z_istore_n (pc := 1) dX6_laysBack_1 rfl (Nat.le_of_ble_eq_true rfl) (z_so2_1 rfl) ?_
  exact kX6_laysBack_2 D  hD z_FU (0 : Int32) σ
def fX6_run_57  : Nat → Int32 → Int32 → Int32 → z_Mem → Option (Int32 × z_Mem)
  | 0, _, _, _, _ => none
  | q + 1, l1, l2, l3, σ => if l1 ≤ l3 then (if l2 = 0 then (z_bd (fX6_weakest σ) (fun r7 s7 => z_bd (fX6_laysBack s7) (fun _ s8 => some (r7, s8)))) else (if l2 = (1 : Int32) then (z_bd (fX6_gates σ) (fun r5 s5 => z_bd (fX6_laysBack s5) (fun _ s6 => some (r5, s6)))) else (z_gd (z_in (((3 : Int32) * (l2 - (10 : Int32))) + (1 : Int32)) 18) (z_bd (fX6_laysBack σ) (fun _ s4 => some (σ.1 4 (z_x (((3 : Int32) * (l2 - (10 : Int32))) + (1 : Int32))), s4)))))) else (z_bd (fX6_passes σ) (fun _ s9 => fX6_run_57  q l1 l2 (l3 + 1) s9))
theorem kX6_run_57 (D : Nat)   (hD : 74 ≤ D) : ∀ (q : Nat) (l1 : Int32) (l2 : Int32) (l3 : Int32)  (σ : z_Mem), z_Go YM mX6_run (D + 1) z_i 57 [some (zR 0), some (zI l1), some (zI l2), some (zI l3)] [] σ (fX6_run_57 q l1 l2 l3 σ) := by
  intro q
  induction q with
  | zero => intros; exact z_none
  | succ q ih =>
    intro l1 l2 l3 σ
    rw [fX6_run_57]
    refine z_iload_n (pc := 57) dX6_run_57 rfl rfl ?_
    refine z_iload_n (pc := 58) dX6_run_58 rfl rfl ?_
    refine z_icmp_ge (tgt := 72) (pc := 59) dX6_run_59 (by decide) (fun _ => ?_) (fun _ => ?_)
    · refine z_iload_n (pc := 72) dX6_run_72 rfl rfl ?_
      refine z_if_ne (tgt := 83) (pc := 73) dX6_run_73 (by decide) (fun _ => ?_) (fun _ => ?_)
      · refine z_iload_n (pc := 83) dX6_run_83 rfl rfl ?_
        refine z_iconst_1 (pc := 84) dX6_run_84 ?_
        refine z_icmp_ne (tgt := 95) (pc := 85) dX6_run_85 (by decide) (fun _ => ?_) (fun _ => ?_)
        · refine z_aload_n (pc := 95) dX6_run_95 rfl rfl ?_
          refine gfX6_9 (pc := 96) dX6_run_96 ym_0 w_10_10 rfl ?_
          refine z_iconst_3 (pc := 99) dX6_run_99 ?_
          refine z_iload_n (pc := 100) dX6_run_100 rfl rfl ?_
          refine z_bipush_10 (pc := 101) dX6_run_101 ?_
          refine z_isub (pc := 103) dX6_run_103 ?_
          refine z_imul (pc := 104) dX6_run_104 ?_
          refine z_iconst_1 (pc := 105) dX6_run_105 ?_
          refine z_iadd (pc := 106) dX6_run_106 ?_
          refine z_iald (pc := 107) dX6_run_107 ym_4 ?_
          refine z_istore_n (pc := 108) dX6_run_108 rfl (Nat.le_of_ble_eq_true rfl) (z_so4_3 rfl) ?_
          refine z_aload_n (pc := 109) dX6_run_109 rfl rfl ?_
          refine z_V0u (pc := 110) dX6_run_110 lVX6_294 ym_0 rfl (Nat.le_of_ble_eq_true rfl) (kX6_laysBack σ D (by omega)) (fun _ s4 => ?_)
          refine z_iload_n (pc := 113) dX6_run_113 rfl rfl ?_
          exact z_iret (pc := 114) dX6_run_114 rfl rfl
        · refine z_aload_n (pc := 88) dX6_run_88 rfl rfl ?_
          refine z_V0i (pc := 89) dX6_run_89 lVX6_265 ym_0 rfl (Nat.le_of_ble_eq_true rfl) (kX6_gates σ D (by omega)) (fun r5 s5 => ?_)
          refine z_goto (tgt := 108) (pc := 92) dX6_run_92 (by decide) ?_
          refine z_istore_n (pc := 108) dX6_run_108 rfl (Nat.le_of_ble_eq_true rfl) (z_so4_3 rfl) ?_
          refine z_aload_n (pc := 109) dX6_run_109 rfl rfl ?_
          refine z_V0u (pc := 110) dX6_run_110 lVX6_294 ym_0 rfl (Nat.le_of_ble_eq_true rfl) (kX6_laysBack s5 D (by omega)) (fun _ s6 => ?_)
          refine z_iload_n (pc := 113) dX6_run_113 rfl rfl ?_
          exact z_iret (pc := 114) dX6_run_114 rfl rfl
      · refine z_aload_n (pc := 76) dX6_run_76 rfl rfl ?_
        refine z_V0i (pc := 77) dX6_run_77 lVX6_262 ym_0 rfl (Nat.le_of_ble_eq_true rfl) (kX6_weakest σ D (by omega)) (fun r7 s7 => ?_)
        refine z_goto (tgt := 108) (pc := 80) dX6_run_80 (by decide) ?_
        refine z_istore_n (pc := 108) dX6_run_108 rfl (Nat.le_of_ble_eq_true rfl) (z_so4_3 rfl) ?_
        refine z_aload_n (pc := 109) dX6_run_109 rfl rfl ?_
        refine z_V0u (pc := 110) dX6_run_110 lVX6_294 ym_0 rfl (Nat.le_of_ble_eq_true rfl) (kX6_laysBack s7 D (by omega)) (fun _ s8 => ?_)
        refine z_iload_n (pc := 113) dX6_run_113 rfl rfl ?_
        exact z_iret (pc := 114) dX6_run_114 rfl rfl
    · refine z_aload_n (pc := 62) dX6_run_62 rfl rfl ?_
      refine z_V0u (pc := 63) dX6_run_63 lVX6_282 ym_0 rfl (Nat.le_of_ble_eq_true rfl) (kX6_passes σ D (by omega)) (fun _ s9 => ?_)
      refine z_iinc (y := 1) (pc := 66) dX6_run_66 rfl (by decide) (Nat.le_of_ble_eq_true rfl) (z_so4_3 rfl) ?_
      refine z_goto (tgt := 57) (pc := 69) dX6_run_69 (by decide) ?_
      exact ih l1 l2 (l3 + 1) s9
def fX6_run  (a1 : Int32) (a2 : Int32) (σ : z_Mem) : Option (Int32 × z_Mem) :=
  z_bd (fX6_in a1.toInt64 (0 : Int64) (40 : Int64) σ) (fun r1 s1 => if r1 = 0 then (some ((-1000 : Int32), s1)) else (z_bd (fX6_in a2.toInt64 (0 : Int64) (1 : Int64) s1) (fun r2 s2 => if r2 = 0 then (z_bd (fX6_in a2.toInt64 (10 : Int64) (15 : Int64) s2) (fun r10 s10 => if r10 = 0 then (some ((-1000 : Int32), s10)) else (z_bd (fX6_isOne (a2 - (10 : Int32)) s10) (fun r11 s11 => if r11 = 0 then (some ((-1000 : Int32), s11)) else (z_bd (fX6_laysAside s11) (fun _ s12 => fX6_run_57 z_FU a1 a2 (0 : Int32) s12)))))) else (z_bd (fX6_laysAside s2) (fun _ s3 => fX6_run_57 z_FU a1 a2 (0 : Int32) s3)))))
theorem kX6_run   (a1 : Int32) (a2 : Int32) (σ : z_Mem) (D : Nat) (hD : 75 ≤ D) : z_Call YM mX6_run D z_i [zR 0, zI a1, zI a2] σ (fX6_run a1 a2 σ) := by
  obtain ⟨D, rfl⟩ : ∃ E, D = E + 1 := ⟨D - 1, by omega⟩
  replace hD : 74 ≤ D := by omega
  refine z_entry (lv := [some (zR 0), some (zI a1), some (zI a2), none]) (by decide) rfl (Nat.le_of_ble_eq_true rfl) rfl ?_
  rw [fX6_run]
  refine z_iload_n (pc := 0) dX6_run_0 rfl rfl ?_
  refine z_i2l (pc := 1) dX6_run_1 ?_
  refine z_lconst (v := 0) (pc := 2) dX6_run_2 rfl ?_
  refine z_ldc2 (v := 40) (pc := 3) dX6_run_3 w_29_7 ?_
  refine z_S3i (pc := 6) dX6_run_6 lSX6_70 (Nat.le_of_ble_eq_true rfl) (kX6_in a1.toInt64 (0 : Int64) (40 : Int64) σ D (by omega)) (fun r1 s1 => ?_)
  refine z_if_eq (tgt := 47) (pc := 9) dX6_run_9 (by decide) (fun _ => ?_) (fun _ => ?_)
  · refine z_sipush_m1000 (pc := 47) dX6_run_47 ?_
    exact z_iret (pc := 50) dX6_run_50 rfl rfl
  · refine z_iload_n (pc := 12) dX6_run_12 rfl rfl ?_
    refine z_i2l (pc := 13) dX6_run_13 ?_
    refine z_lconst (v := 0) (pc := 14) dX6_run_14 rfl ?_
    refine z_lconst (v := 1) (pc := 15) dX6_run_15 rfl ?_
    refine z_S3i (pc := 16) dX6_run_16 lSX6_70 (Nat.le_of_ble_eq_true rfl) (kX6_in a2.toInt64 (0 : Int64) (1 : Int64) s1 D (by omega)) (fun r2 s2 => ?_)
    refine z_if_ne (tgt := 51) (pc := 19) dX6_run_19 (by decide) (fun _ => ?_) (fun _ => ?_)
    · refine z_aload_n (pc := 51) dX6_run_51 rfl rfl ?_
      refine z_V0u (pc := 52) dX6_run_52 lVX6_291 ym_0 rfl (Nat.le_of_ble_eq_true rfl) (kX6_laysAside s2 D (by omega)) (fun _ s3 => ?_)
      refine z_iconst_0 (pc := 55) dX6_run_55 ?_
      refine z_istore_n (pc := 56) dX6_run_56 rfl (Nat.le_of_ble_eq_true rfl) (z_so4_3 rfl) ?_
      exact kX6_run_57 D  hD z_FU a1 a2 (0 : Int32) s3
    · refine z_iload_n (pc := 22) dX6_run_22 rfl rfl ?_
      refine z_i2l (pc := 23) dX6_run_23 ?_
      refine z_ldc2 (v := 10) (pc := 24) dX6_run_24 w_15_3 ?_
      refine z_ldc2 (v := 15) (pc := 27) dX6_run_27 w_29_8 ?_
      refine z_S3i (pc := 30) dX6_run_30 lSX6_70 (Nat.le_of_ble_eq_true rfl) (kX6_in a2.toInt64 (10 : Int64) (15 : Int64) s2 D (by omega)) (fun r10 s10 => ?_)
      refine z_if_eq (tgt := 47) (pc := 33) dX6_run_33 (by decide) (fun _ => ?_) (fun _ => ?_)
      · refine z_sipush_m1000 (pc := 47) dX6_run_47 ?_
        exact z_iret (pc := 50) dX6_run_50 rfl rfl
      · refine z_aload_n (pc := 36) dX6_run_36 rfl rfl ?_
        refine z_iload_n (pc := 37) dX6_run_37 rfl rfl ?_
        refine z_bipush_10 (pc := 38) dX6_run_38 ?_
        refine z_isub (pc := 40) dX6_run_40 ?_
        refine z_V1i (pc := 41) dX6_run_41 lVX6_74 ym_0 rfl (Nat.le_of_ble_eq_true rfl) (kX6_isOne (a2 - (10 : Int32)) s10 D (by omega)) (fun r11 s11 => ?_)
        refine z_if_ne (tgt := 51) (pc := 44) dX6_run_44 (by decide) (fun _ => ?_) (fun _ => ?_)
        · refine z_aload_n (pc := 51) dX6_run_51 rfl rfl ?_
          refine z_V0u (pc := 52) dX6_run_52 lVX6_291 ym_0 rfl (Nat.le_of_ble_eq_true rfl) (kX6_laysAside s11 D (by omega)) (fun _ s12 => ?_)
          refine z_iconst_0 (pc := 55) dX6_run_55 ?_
          refine z_istore_n (pc := 56) dX6_run_56 rfl (Nat.le_of_ble_eq_true rfl) (z_so4_3 rfl) ?_
          exact kX6_run_57 D  hD z_FU a1 a2 (0 : Int32) s12
        · refine z_sipush_m1000 (pc := 47) dX6_run_47 ?_
          exact z_iret (pc := 50) dX6_run_50 rfl rfl
def fX6_opens_6  : Nat → Int32 → z_Mem → Option (Int32 × z_Mem)
  | 0, _, _ => none
  | q + 1, l1, σ => if (60 : Int32) < l1 then (z_bd (fX6_laysBack σ) (fun _ s2 => if l1 ≤ (60 : Int32) then (some (l1, s2)) else (some ((-1 : Int32), s2)))) else (z_bd (fX6_gates σ) (fun r3 s3 => if r3 = 0 then (z_bd (fX6_passes s3) (fun _ s5 => fX6_opens_6  q (l1 + 1) s5)) else (z_bd (fX6_laysBack s3) (fun _ s4 => if l1 ≤ (60 : Int32) then (some (l1, s4)) else (some ((-1 : Int32), s4))))))
theorem kX6_opens_6 (D : Nat)   (hD : 74 ≤ D) : ∀ (q : Nat) (l1 : Int32)  (σ : z_Mem), z_Go YM mX6_opens (D + 1) z_i 6 [some (zR 0), some (zI l1)] [] σ (fX6_opens_6 q l1 σ) := by
  intro q
  induction q with
  | zero => intros; exact z_none
  | succ q ih =>
    intro l1 σ
    rw [fX6_opens_6]
    refine z_iload_n (pc := 6) dX6_opens_6 rfl rfl ?_
    refine z_bipush_60 (pc := 7) dX6_opens_7 ?_
    refine z_icmp_gt (tgt := 29) (pc := 9) dX6_opens_9 (by decide) (fun _ => ?_) (fun _ => ?_)
    · refine z_aload_n (pc := 29) dX6_opens_29 rfl rfl ?_
      refine z_V0u (pc := 30) dX6_opens_30 lVX6_294 ym_0 rfl (Nat.le_of_ble_eq_true rfl) (kX6_laysBack σ D (by omega)) (fun _ s2 => ?_)
      refine z_iload_n (pc := 33) dX6_opens_33 rfl rfl ?_
      refine z_bipush_60 (pc := 34) dX6_opens_34 ?_
      refine z_icmp_le (tgt := 43) (pc := 36) dX6_opens_36 (by decide) (fun _ => ?_) (fun _ => ?_)
      · refine z_iload_n (pc := 43) dX6_opens_43 rfl rfl ?_
        exact z_iret (pc := 44) dX6_opens_44 rfl rfl
      · refine z_iconst_m1 (pc := 39) dX6_opens_39 ?_
        refine z_goto (tgt := 44) (pc := 40) dX6_opens_40 (by decide) ?_
        exact z_iret (pc := 44) dX6_opens_44 rfl rfl
    · refine z_aload_n (pc := 12) dX6_opens_12 rfl rfl ?_
      refine z_V0i (pc := 13) dX6_opens_13 lVX6_265 ym_0 rfl (Nat.le_of_ble_eq_true rfl) (kX6_gates σ D (by omega)) (fun r3 s3 => ?_)
      refine z_if_ne (tgt := 29) (pc := 16) dX6_opens_16 (by decide) (fun _ => ?_) (fun _ => ?_)
      · refine z_aload_n (pc := 29) dX6_opens_29 rfl rfl ?_
        refine z_V0u (pc := 30) dX6_opens_30 lVX6_294 ym_0 rfl (Nat.le_of_ble_eq_true rfl) (kX6_laysBack s3 D (by omega)) (fun _ s4 => ?_)
        refine z_iload_n (pc := 33) dX6_opens_33 rfl rfl ?_
        refine z_bipush_60 (pc := 34) dX6_opens_34 ?_
        refine z_icmp_le (tgt := 43) (pc := 36) dX6_opens_36 (by decide) (fun _ => ?_) (fun _ => ?_)
        · refine z_iload_n (pc := 43) dX6_opens_43 rfl rfl ?_
          exact z_iret (pc := 44) dX6_opens_44 rfl rfl
        · refine z_iconst_m1 (pc := 39) dX6_opens_39 ?_
          refine z_goto (tgt := 44) (pc := 40) dX6_opens_40 (by decide) ?_
          exact z_iret (pc := 44) dX6_opens_44 rfl rfl
      · refine z_aload_n (pc := 19) dX6_opens_19 rfl rfl ?_
        refine z_V0u (pc := 20) dX6_opens_20 lVX6_282 ym_0 rfl (Nat.le_of_ble_eq_true rfl) (kX6_passes s3 D (by omega)) (fun _ s5 => ?_)
        refine z_iinc (y := 1) (pc := 23) dX6_opens_23 rfl (by decide) (Nat.le_of_ble_eq_true rfl) (z_so2_1 rfl) ?_
        refine z_goto (tgt := 6) (pc := 26) dX6_opens_26 (by decide) ?_
        exact ih (l1 + 1) s5
def fX6_opens   (σ : z_Mem) : Option (Int32 × z_Mem) :=
  z_bd (fX6_laysAside σ) (fun _ s1 => fX6_opens_6 z_FU (0 : Int32) s1)
theorem kX6_opens    (σ : z_Mem) (D : Nat) (hD : 75 ≤ D) : z_Call YM mX6_opens D z_i [zR 0] σ (fX6_opens σ) := by
  obtain ⟨D, rfl⟩ : ∃ E, D = E + 1 := ⟨D - 1, by omega⟩
  replace hD : 74 ≤ D := by omega
  refine z_entry (lv := [some (zR 0), none]) (by decide) rfl (Nat.le_of_ble_eq_true rfl) rfl ?_
  rw [fX6_opens]
  refine z_aload_n (pc := 0) dX6_opens_0 rfl rfl ?_
  refine z_V0u (pc := 1) dX6_opens_1 lVX6_291 ym_0 rfl (Nat.le_of_ble_eq_true rfl) (kX6_laysAside σ D (by omega)) (fun _ s1 => ?_)
  refine z_iconst_0 (pc := 4) dX6_opens_4 ?_
  refine z_istore_n (pc := 5) dX6_opens_5 rfl (Nat.le_of_ble_eq_true rfl) (z_so2_1 rfl) ?_
  exact kX6_opens_6 D  hD z_FU (0 : Int32) s1
def fX6_digitsOf_4  : Nat → Int32 → Int32 → z_Mem → Option (Int32 × z_Mem)
  | 0, _, _, _ => none
  | q + 1, l1, l2, σ => if σ.1 0 12 ≤ l2 then (some (l1, σ)) else (z_gd (z_in l2 6) (fX6_digitsOf_4  q ((((10 : Int32) * l1) + (σ.1 5 (z_x l2))) + (1 : Int32)) (l2 + 1) σ))
theorem kX6_digitsOf_4 (D : Nat)   (hD : 0 ≤ D) : ∀ (q : Nat) (l1 : Int32) (l2 : Int32)  (σ : z_Mem), z_Go YM mX6_digitsOf (D + 1) z_i 4 [some (zR 0), some (zI l1), some (zI l2)] [] σ (fX6_digitsOf_4 q l1 l2 σ) := by
  intro q
  induction q with
  | zero => intros; exact z_none
  | succ q ih =>
    intro l1 l2 σ
    rw [fX6_digitsOf_4]
    refine z_iload_n (pc := 4) dX6_digitsOf_4 rfl rfl ?_
    refine z_aload_n (pc := 5) dX6_digitsOf_5 rfl rfl ?_
    refine gfX6_12 (pc := 6) dX6_digitsOf_6 ym_0 w_12_16 rfl ?_
    refine z_icmp_ge (tgt := 32) (pc := 9) dX6_digitsOf_9 (by decide) (fun _ => ?_) (fun _ => ?_)
    · refine z_iload_n (pc := 32) dX6_digitsOf_32 rfl rfl ?_
      exact z_iret (pc := 33) dX6_digitsOf_33 rfl rfl
    · refine z_bipush_10 (pc := 12) dX6_digitsOf_12 ?_
      refine z_iload_n (pc := 14) dX6_digitsOf_14 rfl rfl ?_
      refine z_imul (pc := 15) dX6_digitsOf_15 ?_
      refine z_aload_n (pc := 16) dX6_digitsOf_16 rfl rfl ?_
      refine gfX6_11 (pc := 17) dX6_digitsOf_17 ym_0 w_10_11 rfl ?_
      refine z_iload_n (pc := 20) dX6_digitsOf_20 rfl rfl ?_
      refine z_iald (pc := 21) dX6_digitsOf_21 ym_5 ?_
      refine z_iadd (pc := 22) dX6_digitsOf_22 ?_
      refine z_iconst_1 (pc := 23) dX6_digitsOf_23 ?_
      refine z_iadd (pc := 24) dX6_digitsOf_24 ?_
      refine z_istore_n (pc := 25) dX6_digitsOf_25 rfl (Nat.le_of_ble_eq_true rfl) (z_so3_1 rfl) ?_
      refine z_iinc (y := 1) (pc := 26) dX6_digitsOf_26 rfl (by decide) (Nat.le_of_ble_eq_true rfl) (z_so3_2 rfl) ?_
      refine z_goto (tgt := 4) (pc := 29) dX6_digitsOf_29 (by decide) ?_
      exact ih ((((10 : Int32) * l1) + (σ.1 5 (z_x l2))) + (1 : Int32)) (l2 + 1) σ
def fX6_digitsOf   (σ : z_Mem) : Option (Int32 × z_Mem) :=
  fX6_digitsOf_4 z_FU (0 : Int32) (0 : Int32) σ
theorem kX6_digitsOf    (σ : z_Mem) (D : Nat) (hD : 1 ≤ D) : z_Call YM mX6_digitsOf D z_i [zR 0] σ (fX6_digitsOf σ) := by
  obtain ⟨D, rfl⟩ : ∃ E, D = E + 1 := ⟨D - 1, by omega⟩
  replace hD : 0 ≤ D := by omega
  refine z_entry (lv := [some (zR 0), none, none]) (by decide) rfl (Nat.le_of_ble_eq_true rfl) rfl ?_
  rw [fX6_digitsOf]
  refine z_iconst_0 (pc := 0) dX6_digitsOf_0 ?_
  refine z_istore_n (pc := 1) dX6_digitsOf_1 rfl (Nat.le_of_ble_eq_true rfl) (z_so3_1 rfl) ?_
  refine z_iconst_0 (pc := 2) dX6_digitsOf_2 ?_
  refine z_istore_n (pc := 3) dX6_digitsOf_3 rfl (Nat.le_of_ble_eq_true rfl) (z_so3_2 rfl) ?_
  exact kX6_digitsOf_4 D  hD z_FU (0 : Int32) (0 : Int32) σ
def zGO_ok (G : Int32 → Int32 → z_Mem → Option (Unit × z_Mem)) (D : Nat) : Prop := (∀ (a1 : Int32) (a2 : Int32) (σ : z_Mem), z_Call YM mX6_orders D z_u [zR 0, zI a1, zI a2] σ (G a1 a2 σ))
def fX6_orders_44 (G : Int32 → Int32 → z_Mem → Option (Unit × z_Mem))  : Nat → Int32 → Int32 → Int32 → z_Mem → Option (Unit × z_Mem)
  | 0, _, _, _, _ => none
  | q + 1, l1, l2, l3, σ => if σ.1 0 10 ≤ l3 then (some ((), σ)) else (if (l2 >>> (l3 &&& 31)) &&& (1 : Int32) = (1 : Int32) then (z_gd (z_in l1 6) (z_st (z_pt σ 5 (z_x l1) l3) (fun s1 => z_bd (G (l1 + (1 : Int32)) (l2 &&& (((1 : Int32) <<< (l3 &&& 31)) ^^^ (-1 : Int32))) s1) (fun _ s2 => fX6_orders_44 G  q l1 l2 (l3 + 1) s2)))) else (fX6_orders_44 G  q l1 l2 (l3 + 1) σ))
theorem kX6_orders_44 (D : Nat) (G : Int32 → Int32 → z_Mem → Option (Unit × z_Mem)) (hG : zGO_ok G D)   (hD : 74 ≤ D) : ∀ (q : Nat) (l1 : Int32) (l2 : Int32) (l3 : Int32)  (σ : z_Mem), z_Go YM mX6_orders (D + 1) z_u 44 [some (zR 0), some (zI l1), some (zI l2), some (zI l3)] [] σ (fX6_orders_44 G q l1 l2 l3 σ) := by
  intro q
  induction q with
  | zero => intros; exact z_none
  | succ q ih =>
    intro l1 l2 l3 σ
    rw [fX6_orders_44]
    refine z_iload_n (pc := 44) dX6_orders_44 rfl rfl ?_
    refine z_aload_n (pc := 45) dX6_orders_45 rfl rfl ?_
    refine gfX6_10 (pc := 46) dX6_orders_46 ym_0 w_12_21 rfl ?_
    refine z_icmp_ge (tgt := 88) (pc := 49) dX6_orders_49 (by decide) (fun _ => ?_) (fun _ => ?_)
    · exact z_vret (pc := 88) dX6_orders_88 rfl
    · refine z_iload_n (pc := 52) dX6_orders_52 rfl rfl ?_
      refine z_iload_n (pc := 53) dX6_orders_53 rfl rfl ?_
      refine z_ishr (pc := 54) dX6_orders_54 ?_
      refine z_iconst_1 (pc := 55) dX6_orders_55 ?_
      refine z_iand (pc := 56) dX6_orders_56 ?_
      refine z_iconst_1 (pc := 57) dX6_orders_57 ?_
      refine z_icmp_ne (tgt := 82) (pc := 58) dX6_orders_58 (by decide) (fun _ => ?_) (fun _ => ?_)
      · refine z_iinc (y := 1) (pc := 82) dX6_orders_82 rfl (by decide) (Nat.le_of_ble_eq_true rfl) (z_so4_3 rfl) ?_
        refine z_goto (tgt := 44) (pc := 85) dX6_orders_85 (by decide) ?_
        exact ih l1 l2 (l3 + 1) σ
      · refine z_aload_n (pc := 61) dX6_orders_61 rfl rfl ?_
        refine gfX6_11 (pc := 62) dX6_orders_62 ym_0 w_10_11 rfl ?_
        refine z_iload_n (pc := 65) dX6_orders_65 rfl rfl ?_
        refine z_iload_n (pc := 66) dX6_orders_66 rfl rfl ?_
        refine z_iast (pc := 67) dX6_orders_67 ym_5 ?_
        refine z_let (fun s1 => ?_)
        refine z_aload_n (pc := 68) dX6_orders_68 rfl rfl ?_
        refine z_iload_n (pc := 69) dX6_orders_69 rfl rfl ?_
        refine z_iconst_1 (pc := 70) dX6_orders_70 ?_
        refine z_iadd (pc := 71) dX6_orders_71 ?_
        refine z_iload_n (pc := 72) dX6_orders_72 rfl rfl ?_
        refine z_iconst_1 (pc := 73) dX6_orders_73 ?_
        refine z_iload_n (pc := 74) dX6_orders_74 rfl rfl ?_
        refine z_ishl (pc := 75) dX6_orders_75 ?_
        refine z_iconst_m1 (pc := 76) dX6_orders_76 ?_
        refine z_ixor (pc := 77) dX6_orders_77 ?_
        refine z_iand (pc := 78) dX6_orders_78 ?_
        refine z_V2u (pc := 79) dX6_orders_79 lVX6_306 ym_0 rfl (Nat.le_of_ble_eq_true rfl) (hG (l1 + (1 : Int32)) (l2 &&& (((1 : Int32) <<< (l3 &&& 31)) ^^^ (-1 : Int32))) s1) (fun _ s2 => ?_)
        refine z_iinc (y := 1) (pc := 82) dX6_orders_82 rfl (by decide) (Nat.le_of_ble_eq_true rfl) (z_so4_3 rfl) ?_
        refine z_goto (tgt := 44) (pc := 85) dX6_orders_85 (by decide) ?_
        exact ih l1 l2 (l3 + 1) s2
def fX6_orders_b (G : Int32 → Int32 → z_Mem → Option (Unit × z_Mem)) (a1 : Int32) (a2 : Int32) (σ : z_Mem) : Option (Unit × z_Mem) :=
  if a1 < σ.1 0 12 then (fX6_orders_44 G z_FU a1 a2 (0 : Int32) σ) else (z_bd (fX6_weakest σ) (fun r3 s3 => if s3.1 0 31 = 0 then (z_bd (fX6_digitsOf s3) (fun r4 s4 => z_st (z_pt s4 0 31 r4) (fun s5 => z_st (z_pt s5 0 32 r3) (fun s6 => some ((), s6))))) else (if r3 ≤ s3.1 0 32 then (some ((), s3)) else (z_bd (fX6_digitsOf s3) (fun r7 s7 => z_st (z_pt s7 0 31 r7) (fun s8 => z_st (z_pt s8 0 32 r3) (fun s9 => some ((), s9))))))))
theorem kX6_orders_b (D : Nat) (G : Int32 → Int32 → z_Mem → Option (Unit × z_Mem)) (hG : zGO_ok G D) (hD : 74 ≤ D) (a1 : Int32) (a2 : Int32) (σ : z_Mem) : z_Call YM mX6_orders (D + 1) z_u [zR 0, zI a1, zI a2] σ (fX6_orders_b G a1 a2 σ) := by
  refine z_entry (lv := [some (zR 0), some (zI a1), some (zI a2), none]) (by decide) rfl (Nat.le_of_ble_eq_true rfl) rfl ?_
  rw [fX6_orders_b]
  refine z_iload_n (pc := 0) dX6_orders_0 rfl rfl ?_
  refine z_aload_n (pc := 1) dX6_orders_1 rfl rfl ?_
  refine gfX6_12 (pc := 2) dX6_orders_2 ym_0 w_12_16 rfl ?_
  refine z_icmp_lt (tgt := 42) (pc := 5) dX6_orders_5 (by decide) (fun _ => ?_) (fun _ => ?_)
  · refine z_iconst_0 (pc := 42) dX6_orders_42 ?_
    refine z_istore_n (pc := 43) dX6_orders_43 rfl (Nat.le_of_ble_eq_true rfl) (z_so4_3 rfl) ?_
    exact kX6_orders_44 D G hG  hD z_FU a1 a2 (0 : Int32) σ
  · refine z_aload_n (pc := 8) dX6_orders_8 rfl rfl ?_
    refine z_V0i (pc := 9) dX6_orders_9 lVX6_262 ym_0 rfl (Nat.le_of_ble_eq_true rfl) (kX6_weakest σ D (by omega)) (fun r3 s3 => ?_)
    refine z_istore_n (pc := 12) dX6_orders_12 rfl (Nat.le_of_ble_eq_true rfl) (z_so4_3 rfl) ?_
    refine z_aload_n (pc := 13) dX6_orders_13 rfl rfl ?_
    refine gfX6_31 (pc := 14) dX6_orders_14 ym_0 w_31_13 rfl ?_
    refine z_if_eq (tgt := 28) (pc := 17) dX6_orders_17 (by decide) (fun _ => ?_) (fun _ => ?_)
    · refine z_aload_n (pc := 28) dX6_orders_28 rfl rfl ?_
      refine z_aload_n (pc := 29) dX6_orders_29 rfl rfl ?_
      refine z_V0i (pc := 30) dX6_orders_30 lVX6_303 ym_0 rfl (Nat.le_of_ble_eq_true rfl) (kX6_digitsOf s3 D (by omega)) (fun r4 s4 => ?_)
      refine pfX6_31 (pc := 33) dX6_orders_33 ym_0 w_31_13 rfl ?_
      refine z_let (fun s5 => ?_)
      refine z_aload_n (pc := 36) dX6_orders_36 rfl rfl ?_
      refine z_iload_n (pc := 37) dX6_orders_37 rfl rfl ?_
      refine pfX6_32 (pc := 38) dX6_orders_38 ym_0 w_31_14 rfl ?_
      refine z_let (fun s6 => ?_)
      exact z_vret (pc := 41) dX6_orders_41 rfl
    · refine z_iload_n (pc := 20) dX6_orders_20 rfl rfl ?_
      refine z_aload_n (pc := 21) dX6_orders_21 rfl rfl ?_
      refine gfX6_32 (pc := 22) dX6_orders_22 ym_0 w_31_14 rfl ?_
      refine z_icmp_le (tgt := 41) (pc := 25) dX6_orders_25 (by decide) (fun _ => ?_) (fun _ => ?_)
      · exact z_vret (pc := 41) dX6_orders_41 rfl
      · refine z_aload_n (pc := 28) dX6_orders_28 rfl rfl ?_
        refine z_aload_n (pc := 29) dX6_orders_29 rfl rfl ?_
        refine z_V0i (pc := 30) dX6_orders_30 lVX6_303 ym_0 rfl (Nat.le_of_ble_eq_true rfl) (kX6_digitsOf s3 D (by omega)) (fun r7 s7 => ?_)
        refine pfX6_31 (pc := 33) dX6_orders_33 ym_0 w_31_13 rfl ?_
        refine z_let (fun s8 => ?_)
        refine z_aload_n (pc := 36) dX6_orders_36 rfl rfl ?_
        refine z_iload_n (pc := 37) dX6_orders_37 rfl rfl ?_
        refine pfX6_32 (pc := 38) dX6_orders_38 ym_0 w_31_14 rfl ?_
        refine z_let (fun s9 => ?_)
        exact z_vret (pc := 41) dX6_orders_41 rfl
def zGO : Nat → Int32 → Int32 → z_Mem → Option (Unit × z_Mem)
  | 0, _, _, _ => none
  | n + 1, a1, a2, σ => fX6_orders_b (zGO n) a1 a2 σ
theorem zGO_all : ∀ (n D : Nat), n + 74 ≤ D → zGO_ok (zGO n) D
  | 0, D, _ => fun _ _ _ => z_callNone
  | n + 1, D0, hD => by
    obtain ⟨D, rfl⟩ : ∃ E, D0 = E + 1 := ⟨D0 - 1, by omega⟩
    have ih := zGO_all n
    exact fun a1 a2 σ => kX6_orders_b D (zGO n) (ih D (by omega)) (by omega) a1 a2 σ
def fX6_orders (a1 : Int32) (a2 : Int32) (σ : z_Mem) : Option (Unit × z_Mem) := zGO 64 a1 a2 σ
theorem kX6_orders (a1 : Int32) (a2 : Int32) (σ : z_Mem) (D : Nat) (hD : 138 ≤ D) : z_Call YM mX6_orders D z_u [zR 0, zI a1, zI a2] σ (fX6_orders a1 a2 σ) := (zGO_all 64 D (by omega)) a1 a2 σ
def fX6_order_87  (K113 : Int32 → z_Mem → Option (Int32 × z_Mem)) : Nat → Int32 → Int32 → z_Mem → Option (Int32 × z_Mem)
  | 0, _, _, _ => none
  | q + 1, l1, l3, σ => if σ.1 0 12 ≤ l3 then (K113 l1 σ) else (z_gd (z_in l3 6) (z_gd (z_in l3 6) (z_st (z_pt σ 5 (z_x l3) (σ.1 8 (z_x l3))) (fun s4 => fX6_order_87  K113 q l1 (l3 + 1) s4))))
theorem kX6_order_87 (D : Nat)   (hD : 138 ≤ D) (K113 : Int32 → z_Mem → Option (Int32 × z_Mem)) (hK113 : ∀ (l1 : Int32) (σ : z_Mem), z_Go YM mX6_order (D + 1) z_i 113 [some (zR 0), some (zI l1), none, none] [] σ (K113 l1 σ)) : ∀ (q : Nat) (l1 : Int32) (l3 : Int32)  (σ : z_Mem), z_Go YM mX6_order (D + 1) z_i 87 [some (zR 0), some (zI l1), none, some (zI l3)] [] σ (fX6_order_87 K113 q l1 l3 σ) := by
  intro q
  induction q with
  | zero => intros; exact z_none
  | succ q ih =>
    intro l1 l3 σ
    rw [fX6_order_87]
    refine z_iload_n (pc := 87) dX6_order_87 rfl rfl ?_
    refine z_aload_n (pc := 88) dX6_order_88 rfl rfl ?_
    refine gfX6_12 (pc := 89) dX6_order_89 ym_0 w_12_16 rfl ?_
    refine z_icmp_ge (tgt := 113) (pc := 92) dX6_order_92 (by decide) (fun _ => ?_) (fun _ => ?_)
    · exact z_weak (lv' := [some (zR 0), some (zI l1), none, none]) (z_sub_ok ⟨rfl, rfl, trivial⟩) (hK113 l1 σ)
    · refine z_aload_n (pc := 95) dX6_order_95 rfl rfl ?_
      refine gfX6_11 (pc := 96) dX6_order_96 ym_0 w_10_11 rfl ?_
      refine z_iload_n (pc := 99) dX6_order_99 rfl rfl ?_
      refine z_aload_n (pc := 100) dX6_order_100 rfl rfl ?_
      refine gfX6_30 (pc := 101) dX6_order_101 ym_0 w_10_14 rfl ?_
      refine z_iload_n (pc := 104) dX6_order_104 rfl rfl ?_
      refine z_iald (pc := 105) dX6_order_105 ym_8 ?_
      refine z_iast (pc := 106) dX6_order_106 ym_5 ?_
      refine z_let (fun s4 => ?_)
      refine z_iinc (y := 1) (pc := 107) dX6_order_107 rfl (by decide) (Nat.le_of_ble_eq_true rfl) (z_so4_3 rfl) ?_
      refine z_goto (tgt := 87) (pc := 110) dX6_order_110 (by decide) ?_
      exact ih l1 (l3 + 1) s4
def fX6_order_17  : Nat → Int32 → Int32 → Int32 → z_Mem → Option (Int32 × z_Mem)
  | 0, _, _, _, _ => none
  | q + 1, l1, l2, l3, σ => if σ.1 0 12 ≤ l3 then (z_st (z_pt σ 0 31 (0 : Int32)) (fun s2 => z_st (z_pt s2 0 32 (-1 : Int32)) (fun s3 => if s3.1 0 12 ≤ 0 then (fX6_order_87 (fun l1 σ => if l1 = 0 then (some (σ.1 0 31, σ)) else (some (σ.1 0 32, σ))) z_FU l1 (0 : Int32) s3) else (z_bd (fX6_orders (1 : Int32) l2 s3) (fun _ s5 => fX6_order_87 (fun l1 σ => if l1 = 0 then (some (σ.1 0 31, σ)) else (some (σ.1 0 32, σ))) z_FU l1 (0 : Int32) s5))))) else (z_gd (z_in l3 6) (z_gd (z_in l3 6) (z_st (z_pt σ 8 (z_x l3) (σ.1 5 (z_x l3))) (fun s6 => if l3 = 0 then (fX6_order_17  q l1 (l2 ||| (0 : Int32)) (l3 + 1) s6) else (z_gd (z_in l3 6) (fX6_order_17  q l1 (l2 ||| ((1 : Int32) <<< ((s6.1 5 (z_x l3)) &&& 31))) (l3 + 1) s6))))))
theorem kX6_order_17 (D : Nat)   (hD : 138 ≤ D) : ∀ (q : Nat) (l1 : Int32) (l2 : Int32) (l3 : Int32)  (σ : z_Mem), z_Go YM mX6_order (D + 1) z_i 17 [some (zR 0), some (zI l1), some (zI l2), some (zI l3)] [] σ (fX6_order_17 q l1 l2 l3 σ) := by
  intro q
  induction q with
  | zero => intros; exact z_none
  | succ q ih =>
    intro l1 l2 l3 σ
    rw [fX6_order_17]
    refine z_iload_n (pc := 17) dX6_order_17 rfl rfl ?_
    refine z_aload_n (pc := 18) dX6_order_18 rfl rfl ?_
    refine gfX6_12 (pc := 19) dX6_order_19 ym_0 w_12_16 rfl ?_
    refine z_icmp_ge (tgt := 62) (pc := 22) dX6_order_22 (by decide) (fun _ => ?_) (fun _ => ?_)
    · refine z_aload_n (pc := 62) dX6_order_62 rfl rfl ?_
      refine z_iconst_0 (pc := 63) dX6_order_63 ?_
      refine pfX6_31 (pc := 64) dX6_order_64 ym_0 w_31_13 rfl ?_
      refine z_let (fun s2 => ?_)
      refine z_aload_n (pc := 67) dX6_order_67 rfl rfl ?_
      refine z_iconst_m1 (pc := 68) dX6_order_68 ?_
      refine pfX6_32 (pc := 69) dX6_order_69 ym_0 w_31_14 rfl ?_
      refine z_let (fun s3 => ?_)
      refine z_aload_n (pc := 72) dX6_order_72 rfl rfl ?_
      refine gfX6_12 (pc := 73) dX6_order_73 ym_0 w_12_16 rfl ?_
      refine z_if_le (tgt := 85) (pc := 76) dX6_order_76 (by decide) (fun _ => ?_) (fun _ => ?_)
      · refine z_iconst_0 (pc := 85) dX6_order_85 ?_
        refine z_istore_n (pc := 86) dX6_order_86 rfl (Nat.le_of_ble_eq_true rfl) (z_so4_3 rfl) ?_
        refine z_weak (lv' := [some (zR 0), some (zI l1), none, some (zI (0 : Int32))]) (z_sub_ok ⟨rfl, rfl, rfl, trivial⟩) (kX6_order_87 D  hD _ (fun l1 σ => ?_) z_FU l1 (0 : Int32) s3)
        · refine z_iload_n (pc := 113) dX6_order_113 rfl rfl ?_
          refine z_if_ne (tgt := 124) (pc := 114) dX6_order_114 (by decide) (fun _ => ?_) (fun _ => ?_)
          · refine z_aload_n (pc := 124) dX6_order_124 rfl rfl ?_
            refine gfX6_32 (pc := 125) dX6_order_125 ym_0 w_31_14 rfl ?_
            exact z_iret (pc := 128) dX6_order_128 rfl rfl
          · refine z_aload_n (pc := 117) dX6_order_117 rfl rfl ?_
            refine gfX6_31 (pc := 118) dX6_order_118 ym_0 w_31_13 rfl ?_
            refine z_goto (tgt := 128) (pc := 121) dX6_order_121 (by decide) ?_
            exact z_iret (pc := 128) dX6_order_128 rfl rfl
      · refine z_aload_n (pc := 79) dX6_order_79 rfl rfl ?_
        refine z_iconst_1 (pc := 80) dX6_order_80 ?_
        refine z_iload_n (pc := 81) dX6_order_81 rfl rfl ?_
        refine z_V2u (pc := 82) dX6_order_82 lVX6_306 ym_0 rfl (Nat.le_of_ble_eq_true rfl) (kX6_orders (1 : Int32) l2 s3 D (by omega)) (fun _ s5 => ?_)
        refine z_iconst_0 (pc := 85) dX6_order_85 ?_
        refine z_istore_n (pc := 86) dX6_order_86 rfl (Nat.le_of_ble_eq_true rfl) (z_so4_3 rfl) ?_
        refine z_weak (lv' := [some (zR 0), some (zI l1), none, some (zI (0 : Int32))]) (z_sub_ok ⟨rfl, rfl, rfl, trivial⟩) (kX6_order_87 D  hD _ (fun l1 σ => ?_) z_FU l1 (0 : Int32) s5)
        · refine z_iload_n (pc := 113) dX6_order_113 rfl rfl ?_
          refine z_if_ne (tgt := 124) (pc := 114) dX6_order_114 (by decide) (fun _ => ?_) (fun _ => ?_)
          · refine z_aload_n (pc := 124) dX6_order_124 rfl rfl ?_
            refine gfX6_32 (pc := 125) dX6_order_125 ym_0 w_31_14 rfl ?_
            exact z_iret (pc := 128) dX6_order_128 rfl rfl
          · refine z_aload_n (pc := 117) dX6_order_117 rfl rfl ?_
            refine gfX6_31 (pc := 118) dX6_order_118 ym_0 w_31_13 rfl ?_
            refine z_goto (tgt := 128) (pc := 121) dX6_order_121 (by decide) ?_
            exact z_iret (pc := 128) dX6_order_128 rfl rfl
    · refine z_aload_n (pc := 25) dX6_order_25 rfl rfl ?_
      refine gfX6_30 (pc := 26) dX6_order_26 ym_0 w_10_14 rfl ?_
      refine z_iload_n (pc := 29) dX6_order_29 rfl rfl ?_
      refine z_aload_n (pc := 30) dX6_order_30 rfl rfl ?_
      refine gfX6_11 (pc := 31) dX6_order_31 ym_0 w_10_11 rfl ?_
      refine z_iload_n (pc := 34) dX6_order_34 rfl rfl ?_
      refine z_iald (pc := 35) dX6_order_35 ym_5 ?_
      refine z_iast (pc := 36) dX6_order_36 ym_8 ?_
      refine z_let (fun s6 => ?_)
      refine z_iload_n (pc := 37) dX6_order_37 rfl rfl ?_
      refine z_iload_n (pc := 38) dX6_order_38 rfl rfl ?_
      refine z_if_ne (tgt := 46) (pc := 39) dX6_order_39 (by decide) (fun _ => ?_) (fun _ => ?_)
      · refine z_iconst_1 (pc := 46) dX6_order_46 ?_
        refine z_aload_n (pc := 47) dX6_order_47 rfl rfl ?_
        refine gfX6_11 (pc := 48) dX6_order_48 ym_0 w_10_11 rfl ?_
        refine z_iload_n (pc := 51) dX6_order_51 rfl rfl ?_
        refine z_iald (pc := 52) dX6_order_52 ym_5 ?_
        refine z_ishl (pc := 53) dX6_order_53 ?_
        refine z_ior (pc := 54) dX6_order_54 ?_
        refine z_istore_n (pc := 55) dX6_order_55 rfl (Nat.le_of_ble_eq_true rfl) (z_so4_2 rfl) ?_
        refine z_iinc (y := 1) (pc := 56) dX6_order_56 rfl (by decide) (Nat.le_of_ble_eq_true rfl) (z_so4_3 rfl) ?_
        refine z_goto (tgt := 17) (pc := 59) dX6_order_59 (by decide) ?_
        exact ih l1 (l2 ||| ((1 : Int32) <<< ((s6.1 5 (z_x l3)) &&& 31))) (l3 + 1) s6
      · refine z_iconst_0 (pc := 42) dX6_order_42 ?_
        refine z_goto (tgt := 54) (pc := 43) dX6_order_43 (by decide) ?_
        refine z_ior (pc := 54) dX6_order_54 ?_
        refine z_istore_n (pc := 55) dX6_order_55 rfl (Nat.le_of_ble_eq_true rfl) (z_so4_2 rfl) ?_
        refine z_iinc (y := 1) (pc := 56) dX6_order_56 rfl (by decide) (Nat.le_of_ble_eq_true rfl) (z_so4_3 rfl) ?_
        refine z_goto (tgt := 17) (pc := 59) dX6_order_59 (by decide) ?_
        exact ih l1 (l2 ||| (0 : Int32)) (l3 + 1) s6
def fX6_order  (a1 : Int32) (σ : z_Mem) : Option (Int32 × z_Mem) :=
  z_bd (fX6_in a1.toInt64 (0 : Int64) (1 : Int64) σ) (fun r1 s1 => if r1 = 0 then (some ((-2 : Int32), s1)) else (fX6_order_17 z_FU a1 (0 : Int32) (0 : Int32) s1))
theorem kX6_order   (a1 : Int32) (σ : z_Mem) (D : Nat) (hD : 139 ≤ D) : z_Call YM mX6_order D z_i [zR 0, zI a1] σ (fX6_order a1 σ) := by
  obtain ⟨D, rfl⟩ : ∃ E, D = E + 1 := ⟨D - 1, by omega⟩
  replace hD : 138 ≤ D := by omega
  refine z_entry (lv := [some (zR 0), some (zI a1), none, none]) (by decide) rfl (Nat.le_of_ble_eq_true rfl) rfl ?_
  rw [fX6_order]
  refine z_iload_n (pc := 0) dX6_order_0 rfl rfl ?_
  refine z_i2l (pc := 1) dX6_order_1 ?_
  refine z_lconst (v := 0) (pc := 2) dX6_order_2 rfl ?_
  refine z_lconst (v := 1) (pc := 3) dX6_order_3 rfl ?_
  refine z_S3i (pc := 4) dX6_order_4 lSX6_70 (Nat.le_of_ble_eq_true rfl) (kX6_in a1.toInt64 (0 : Int64) (1 : Int64) σ D (by omega)) (fun r1 s1 => ?_)
  refine z_if_ne (tgt := 13) (pc := 7) dX6_order_7 (by decide) (fun _ => ?_) (fun _ => ?_)
  · refine z_iconst_0 (pc := 13) dX6_order_13 ?_
    refine z_istore_n (pc := 14) dX6_order_14 rfl (Nat.le_of_ble_eq_true rfl) (z_so4_2 rfl) ?_
    refine z_iconst_0 (pc := 15) dX6_order_15 ?_
    refine z_istore_n (pc := 16) dX6_order_16 rfl (Nat.le_of_ble_eq_true rfl) (z_so4_3 rfl) ?_
    exact kX6_order_17 D  hD z_FU a1 (0 : Int32) (0 : Int32) s1
  · refine z_bipush_m2 (pc := 10) dX6_order_10 ?_
    exact z_iret (pc := 12) dX6_order_12 rfl rfl
def fX6_let_20  : Nat → Int32 → Int32 → Int32 → Int32 → z_Mem → Option (Int32 × z_Mem)
  | 0, _, _, _, _, _ => none
  | q + 1, l1, l2, l3, l4, σ => if σ.1 0 10 ≤ l4 then (if l1 = 0 then (some (l2, σ)) else (some (l3, σ))) else (if σ.1 0 12 ≤ (2 : Int32) then (if l1 = 0 then (some (l2, σ)) else (some (l3, σ))) else (z_bd (fX6_placeOf l4 σ) (fun r2 s2 => if r2 = (-1 : Int32) then (fX6_let_20  q l1 l2 l3 (l4 + 1) s2) else (z_bd (fX6_closesUp r2 s2) (fun _ s3 => z_bd (fX6_weakest s3) (fun r4 s4 => z_bd (fX6_stands l4 r2 s4) (fun _ s5 => if r4 ≤ l3 then (fX6_let_20  q l1 l2 l3 (l4 + 1) s5) else (fX6_let_20  q l1 l4 r4 (l4 + 1) s5))))))))
theorem kX6_let_20 (D : Nat)   (hD : 74 ≤ D) : ∀ (q : Nat) (l1 : Int32) (l2 : Int32) (l3 : Int32) (l4 : Int32)  (σ : z_Mem), z_Go YM mX6_let (D + 1) z_i 20 [some (zR 0), some (zI l1), some (zI l2), some (zI l3), some (zI l4), none, none] [] σ (fX6_let_20 q l1 l2 l3 l4 σ) := by
  intro q
  induction q with
  | zero => intros; exact z_none
  | succ q ih =>
    intro l1 l2 l3 l4 σ
    rw [fX6_let_20]
    refine z_iload (pc := 20) dX6_let_20 rfl ?_
    refine z_aload_n (pc := 22) dX6_let_22 rfl rfl ?_
    refine gfX6_10 (pc := 23) dX6_let_23 ym_0 w_12_21 rfl ?_
    refine z_icmp_ge (tgt := 89) (pc := 26) dX6_let_26 (by decide) (fun _ => ?_) (fun _ => ?_)
    · refine z_iload_n (pc := 89) dX6_let_89 rfl rfl ?_
      refine z_if_ne (tgt := 97) (pc := 90) dX6_let_90 (by decide) (fun _ => ?_) (fun _ => ?_)
      · refine z_iload_n (pc := 97) dX6_let_97 rfl rfl ?_
        exact z_iret (pc := 98) dX6_let_98 rfl rfl
      · refine z_iload_n (pc := 93) dX6_let_93 rfl rfl ?_
        refine z_goto (tgt := 98) (pc := 94) dX6_let_94 (by decide) ?_
        exact z_iret (pc := 98) dX6_let_98 rfl rfl
    · refine z_aload_n (pc := 29) dX6_let_29 rfl rfl ?_
      refine gfX6_12 (pc := 30) dX6_let_30 ym_0 w_12_16 rfl ?_
      refine z_iconst_2 (pc := 33) dX6_let_33 ?_
      refine z_icmp_le (tgt := 89) (pc := 34) dX6_let_34 (by decide) (fun _ => ?_) (fun _ => ?_)
      · refine z_iload_n (pc := 89) dX6_let_89 rfl rfl ?_
        refine z_if_ne (tgt := 97) (pc := 90) dX6_let_90 (by decide) (fun _ => ?_) (fun _ => ?_)
        · refine z_iload_n (pc := 97) dX6_let_97 rfl rfl ?_
          exact z_iret (pc := 98) dX6_let_98 rfl rfl
        · refine z_iload_n (pc := 93) dX6_let_93 rfl rfl ?_
          refine z_goto (tgt := 98) (pc := 94) dX6_let_94 (by decide) ?_
          exact z_iret (pc := 98) dX6_let_98 rfl rfl
      · refine z_aload_n (pc := 37) dX6_let_37 rfl rfl ?_
        refine z_iload (pc := 38) dX6_let_38 rfl ?_
        refine z_V1i (pc := 40) dX6_let_40 lVX6_119 ym_0 rfl (Nat.le_of_ble_eq_true rfl) (kX6_placeOf l4 σ D (by omega)) (fun r2 s2 => ?_)
        refine z_istore (pc := 43) dX6_let_43 (Nat.le_of_ble_eq_true rfl) (z_so7_5 rfl) ?_
        refine z_iload (pc := 45) dX6_let_45 rfl ?_
        refine z_iconst_m1 (pc := 47) dX6_let_47 ?_
        refine z_icmp_eq (tgt := 83) (pc := 48) dX6_let_48 (by decide) (fun _ => ?_) (fun _ => ?_)
        · refine z_iinc (y := 1) (pc := 83) dX6_let_83 rfl (by decide) (Nat.le_of_ble_eq_true rfl) (z_so7_4 rfl) ?_
          refine z_goto (tgt := 20) (pc := 86) dX6_let_86 (by decide) ?_
          exact z_weak (lv' := [some (zR 0), some (zI l1), some (zI l2), some (zI l3), some (zI (l4 + 1)), none, none]) (z_sub_ok ⟨rfl, rfl, rfl, rfl, rfl, trivial⟩) (ih l1 l2 l3 (l4 + 1) s2)
        · refine z_aload_n (pc := 51) dX6_let_51 rfl rfl ?_
          refine z_iload (pc := 52) dX6_let_52 rfl ?_
          refine z_V1u (pc := 54) dX6_let_54 lVX6_271 ym_0 rfl (Nat.le_of_ble_eq_true rfl) (kX6_closesUp r2 s2 D (by omega)) (fun _ s3 => ?_)
          refine z_aload_n (pc := 57) dX6_let_57 rfl rfl ?_
          refine z_V0i (pc := 58) dX6_let_58 lVX6_262 ym_0 rfl (Nat.le_of_ble_eq_true rfl) (kX6_weakest s3 D (by omega)) (fun r4 s4 => ?_)
          refine z_istore (pc := 61) dX6_let_61 (Nat.le_of_ble_eq_true rfl) (z_so7_6 rfl) ?_
          refine z_aload_n (pc := 63) dX6_let_63 rfl rfl ?_
          refine z_iload (pc := 64) dX6_let_64 rfl ?_
          refine z_iload (pc := 66) dX6_let_66 rfl ?_
          refine z_V2u (pc := 68) dX6_let_68 lVX6_275 ym_0 rfl (Nat.le_of_ble_eq_true rfl) (kX6_stands l4 r2 s4 D (by omega)) (fun _ s5 => ?_)
          refine z_iload (pc := 71) dX6_let_71 rfl ?_
          refine z_iload_n (pc := 73) dX6_let_73 rfl rfl ?_
          refine z_icmp_le (tgt := 83) (pc := 74) dX6_let_74 (by decide) (fun _ => ?_) (fun _ => ?_)
          · refine z_iinc (y := 1) (pc := 83) dX6_let_83 rfl (by decide) (Nat.le_of_ble_eq_true rfl) (z_so7_4 rfl) ?_
            refine z_goto (tgt := 20) (pc := 86) dX6_let_86 (by decide) ?_
            exact z_weak (lv' := [some (zR 0), some (zI l1), some (zI l2), some (zI l3), some (zI (l4 + 1)), none, none]) (z_sub_ok ⟨rfl, rfl, rfl, rfl, rfl, trivial⟩) (ih l1 l2 l3 (l4 + 1) s5)
          · refine z_iload (pc := 77) dX6_let_77 rfl ?_
            refine z_istore_n (pc := 79) dX6_let_79 rfl (Nat.le_of_ble_eq_true rfl) (z_so7_2 rfl) ?_
            refine z_iload (pc := 80) dX6_let_80 rfl ?_
            refine z_istore_n (pc := 82) dX6_let_82 rfl (Nat.le_of_ble_eq_true rfl) (z_so7_3 rfl) ?_
            refine z_iinc (y := 1) (pc := 83) dX6_let_83 rfl (by decide) (Nat.le_of_ble_eq_true rfl) (z_so7_4 rfl) ?_
            refine z_goto (tgt := 20) (pc := 86) dX6_let_86 (by decide) ?_
            exact z_weak (lv' := [some (zR 0), some (zI l1), some (zI l4), some (zI r4), some (zI (l4 + 1)), none, none]) (z_sub_ok ⟨rfl, rfl, rfl, rfl, rfl, trivial⟩) (ih l1 l4 r4 (l4 + 1) s5)
def fX6_let  (a1 : Int32) (σ : z_Mem) : Option (Int32 × z_Mem) :=
  z_bd (fX6_in a1.toInt64 (0 : Int64) (1 : Int64) σ) (fun r1 s1 => if r1 = 0 then (some ((-2 : Int32), s1)) else (fX6_let_20 z_FU a1 (-1 : Int32) (-1 : Int32) (0 : Int32) s1))
theorem kX6_let   (a1 : Int32) (σ : z_Mem) (D : Nat) (hD : 75 ≤ D) : z_Call YM mX6_let D z_i [zR 0, zI a1] σ (fX6_let a1 σ) := by
  obtain ⟨D, rfl⟩ : ∃ E, D = E + 1 := ⟨D - 1, by omega⟩
  replace hD : 74 ≤ D := by omega
  refine z_entry (lv := [some (zR 0), some (zI a1), none, none, none, none, none]) (by decide) rfl (Nat.le_of_ble_eq_true rfl) rfl ?_
  rw [fX6_let]
  refine z_iload_n (pc := 0) dX6_let_0 rfl rfl ?_
  refine z_i2l (pc := 1) dX6_let_1 ?_
  refine z_lconst (v := 0) (pc := 2) dX6_let_2 rfl ?_
  refine z_lconst (v := 1) (pc := 3) dX6_let_3 rfl ?_
  refine z_S3i (pc := 4) dX6_let_4 lSX6_70 (Nat.le_of_ble_eq_true rfl) (kX6_in a1.toInt64 (0 : Int64) (1 : Int64) σ D (by omega)) (fun r1 s1 => ?_)
  refine z_if_ne (tgt := 13) (pc := 7) dX6_let_7 (by decide) (fun _ => ?_) (fun _ => ?_)
  · refine z_iconst_m1 (pc := 13) dX6_let_13 ?_
    refine z_istore_n (pc := 14) dX6_let_14 rfl (Nat.le_of_ble_eq_true rfl) (z_so7_2 rfl) ?_
    refine z_iconst_m1 (pc := 15) dX6_let_15 ?_
    refine z_istore_n (pc := 16) dX6_let_16 rfl (Nat.le_of_ble_eq_true rfl) (z_so7_3 rfl) ?_
    refine z_iconst_0 (pc := 17) dX6_let_17 ?_
    refine z_istore (pc := 18) dX6_let_18 (Nat.le_of_ble_eq_true rfl) (z_so7_4 rfl) ?_
    exact kX6_let_20 D  hD z_FU a1 (-1 : Int32) (-1 : Int32) (0 : Int32) s1
  · refine z_bipush_m2 (pc := 10) dX6_let_10 ?_
    exact z_iret (pc := 12) dX6_let_12 rfl rfl
def fX6_letsIn_47  : Nat → Int32 → Int32 → Int32 → Int32 → Int32 → Int32 → z_Mem → Option (Int32 × z_Mem)
  | 0, _, _, _, _, _, _, _ => none
  | q + 1, l1, l2, l3, l4, l5, l6, σ => if l5 < l6 then (if l2 = 0 then (some (l3, σ)) else (some (l4, σ))) else (z_bd (fX6_stands l1 l6 σ) (fun _ s4 => z_bd (fX6_weakest s4) (fun r5 s5 => z_bd (fX6_closesUp l6 s5) (fun _ s6 => if r5 ≤ l4 then (fX6_letsIn_47  q l1 l2 l3 l4 l5 (l6 + 1) s6) else (fX6_letsIn_47  q l1 l2 l6 r5 l5 (l6 + 1) s6)))))
theorem kX6_letsIn_47 (D : Nat)   (hD : 74 ≤ D) : ∀ (q : Nat) (l1 : Int32) (l2 : Int32) (l3 : Int32) (l4 : Int32) (l5 : Int32) (l6 : Int32)  (σ : z_Mem), z_Go YM mX6_letsIn (D + 1) z_i 47 [some (zR 0), some (zI l1), some (zI l2), some (zI l3), some (zI l4), some (zI l5), some (zI l6), none] [] σ (fX6_letsIn_47 q l1 l2 l3 l4 l5 l6 σ) := by
  intro q
  induction q with
  | zero => intros; exact z_none
  | succ q ih =>
    intro l1 l2 l3 l4 l5 l6 σ
    rw [fX6_letsIn_47]
    refine z_iload (pc := 47) dX6_letsIn_47 rfl ?_
    refine z_iload (pc := 49) dX6_letsIn_49 rfl ?_
    refine z_icmp_gt (tgt := 93) (pc := 51) dX6_letsIn_51 (by decide) (fun _ => ?_) (fun _ => ?_)
    · refine z_iload_n (pc := 93) dX6_letsIn_93 rfl rfl ?_
      refine z_if_ne (tgt := 101) (pc := 94) dX6_letsIn_94 (by decide) (fun _ => ?_) (fun _ => ?_)
      · refine z_iload (pc := 101) dX6_letsIn_101 rfl ?_
        exact z_iret (pc := 103) dX6_letsIn_103 rfl rfl
      · refine z_iload_n (pc := 97) dX6_letsIn_97 rfl rfl ?_
        refine z_goto (tgt := 103) (pc := 98) dX6_letsIn_98 (by decide) ?_
        exact z_iret (pc := 103) dX6_letsIn_103 rfl rfl
    · refine z_aload_n (pc := 54) dX6_letsIn_54 rfl rfl ?_
      refine z_iload_n (pc := 55) dX6_letsIn_55 rfl rfl ?_
      refine z_iload (pc := 56) dX6_letsIn_56 rfl ?_
      refine z_V2u (pc := 58) dX6_letsIn_58 lVX6_275 ym_0 rfl (Nat.le_of_ble_eq_true rfl) (kX6_stands l1 l6 σ D (by omega)) (fun _ s4 => ?_)
      refine z_aload_n (pc := 61) dX6_letsIn_61 rfl rfl ?_
      refine z_V0i (pc := 62) dX6_letsIn_62 lVX6_262 ym_0 rfl (Nat.le_of_ble_eq_true rfl) (kX6_weakest s4 D (by omega)) (fun r5 s5 => ?_)
      refine z_istore (pc := 65) dX6_letsIn_65 (Nat.le_of_ble_eq_true rfl) (z_so8_7 rfl) ?_
      refine z_aload_n (pc := 67) dX6_letsIn_67 rfl rfl ?_
      refine z_iload (pc := 68) dX6_letsIn_68 rfl ?_
      refine z_V1u (pc := 70) dX6_letsIn_70 lVX6_271 ym_0 rfl (Nat.le_of_ble_eq_true rfl) (kX6_closesUp l6 s5 D (by omega)) (fun _ s6 => ?_)
      refine z_iload (pc := 73) dX6_letsIn_73 rfl ?_
      refine z_iload (pc := 75) dX6_letsIn_75 rfl ?_
      refine z_icmp_le (tgt := 87) (pc := 77) dX6_letsIn_77 (by decide) (fun _ => ?_) (fun _ => ?_)
      · refine z_iinc (y := 1) (pc := 87) dX6_letsIn_87 rfl (by decide) (Nat.le_of_ble_eq_true rfl) (z_so8_6 rfl) ?_
        refine z_goto (tgt := 47) (pc := 90) dX6_letsIn_90 (by decide) ?_
        exact z_weak (lv' := [some (zR 0), some (zI l1), some (zI l2), some (zI l3), some (zI l4), some (zI l5), some (zI (l6 + 1)), none]) (z_sub_ok ⟨rfl, rfl, rfl, rfl, rfl, rfl, rfl, trivial⟩) (ih l1 l2 l3 l4 l5 (l6 + 1) s6)
      · refine z_iload (pc := 80) dX6_letsIn_80 rfl ?_
        refine z_istore_n (pc := 82) dX6_letsIn_82 rfl (Nat.le_of_ble_eq_true rfl) (z_so8_3 rfl) ?_
        refine z_iload (pc := 83) dX6_letsIn_83 rfl ?_
        refine z_istore (pc := 85) dX6_letsIn_85 (Nat.le_of_ble_eq_true rfl) (z_so8_4 rfl) ?_
        refine z_iinc (y := 1) (pc := 87) dX6_letsIn_87 rfl (by decide) (Nat.le_of_ble_eq_true rfl) (z_so8_6 rfl) ?_
        refine z_goto (tgt := 47) (pc := 90) dX6_letsIn_90 (by decide) ?_
        exact z_weak (lv' := [some (zR 0), some (zI l1), some (zI l2), some (zI l6), some (zI r5), some (zI l5), some (zI (l6 + 1)), none]) (z_sub_ok ⟨rfl, rfl, rfl, rfl, rfl, rfl, rfl, trivial⟩) (ih l1 l2 l6 r5 l5 (l6 + 1) s6)
def fX6_letsIn  (a1 : Int32) (a2 : Int32) (σ : z_Mem) : Option (Int32 × z_Mem) :=
  z_bd (fX6_isOne a1 σ) (fun r1 s1 => if r1 = 0 then (some ((-2 : Int32), s1)) else (z_bd (fX6_in a2.toInt64 (0 : Int64) (1 : Int64) s1) (fun r2 s2 => if r2 = 0 then (some ((-2 : Int32), s2)) else (z_bd (fX6_placeOf a1 s2) (fun r3 s3 => if r3 = (-1 : Int32) then (fX6_letsIn_47 z_FU a1 a2 (-1 : Int32) (-1 : Int32) (s3.1 0 12) (1 : Int32) s3) else (some ((-3 : Int32), s3)))))))
theorem kX6_letsIn   (a1 : Int32) (a2 : Int32) (σ : z_Mem) (D : Nat) (hD : 75 ≤ D) : z_Call YM mX6_letsIn D z_i [zR 0, zI a1, zI a2] σ (fX6_letsIn a1 a2 σ) := by
  obtain ⟨D, rfl⟩ : ∃ E, D = E + 1 := ⟨D - 1, by omega⟩
  replace hD : 74 ≤ D := by omega
  refine z_entry (lv := [some (zR 0), some (zI a1), some (zI a2), none, none, none, none, none]) (by decide) rfl (Nat.le_of_ble_eq_true rfl) rfl ?_
  rw [fX6_letsIn]
  refine z_aload_n (pc := 0) dX6_letsIn_0 rfl rfl ?_
  refine z_iload_n (pc := 1) dX6_letsIn_1 rfl rfl ?_
  refine z_V1i (pc := 2) dX6_letsIn_2 lVX6_74 ym_0 rfl (Nat.le_of_ble_eq_true rfl) (kX6_isOne a1 σ D (by omega)) (fun r1 s1 => ?_)
  refine z_if_eq (tgt := 18) (pc := 5) dX6_letsIn_5 (by decide) (fun _ => ?_) (fun _ => ?_)
  · refine z_bipush_m2 (pc := 18) dX6_letsIn_18 ?_
    exact z_iret (pc := 20) dX6_letsIn_20 rfl rfl
  · refine z_iload_n (pc := 8) dX6_letsIn_8 rfl rfl ?_
    refine z_i2l (pc := 9) dX6_letsIn_9 ?_
    refine z_lconst (v := 0) (pc := 10) dX6_letsIn_10 rfl ?_
    refine z_lconst (v := 1) (pc := 11) dX6_letsIn_11 rfl ?_
    refine z_S3i (pc := 12) dX6_letsIn_12 lSX6_70 (Nat.le_of_ble_eq_true rfl) (kX6_in a2.toInt64 (0 : Int64) (1 : Int64) s1 D (by omega)) (fun r2 s2 => ?_)
    refine z_if_ne (tgt := 21) (pc := 15) dX6_letsIn_15 (by decide) (fun _ => ?_) (fun _ => ?_)
    · refine z_aload_n (pc := 21) dX6_letsIn_21 rfl rfl ?_
      refine z_iload_n (pc := 22) dX6_letsIn_22 rfl rfl ?_
      refine z_V1i (pc := 23) dX6_letsIn_23 lVX6_119 ym_0 rfl (Nat.le_of_ble_eq_true rfl) (kX6_placeOf a1 s2 D (by omega)) (fun r3 s3 => ?_)
      refine z_iconst_m1 (pc := 26) dX6_letsIn_26 ?_
      refine z_icmp_eq (tgt := 33) (pc := 27) dX6_letsIn_27 (by decide) (fun _ => ?_) (fun _ => ?_)
      · refine z_iconst_m1 (pc := 33) dX6_letsIn_33 ?_
        refine z_istore_n (pc := 34) dX6_letsIn_34 rfl (Nat.le_of_ble_eq_true rfl) (z_so8_3 rfl) ?_
        refine z_iconst_m1 (pc := 35) dX6_letsIn_35 ?_
        refine z_istore (pc := 36) dX6_letsIn_36 (Nat.le_of_ble_eq_true rfl) (z_so8_4 rfl) ?_
        refine z_aload_n (pc := 38) dX6_letsIn_38 rfl rfl ?_
        refine gfX6_12 (pc := 39) dX6_letsIn_39 ym_0 w_12_16 rfl ?_
        refine z_istore (pc := 42) dX6_letsIn_42 (Nat.le_of_ble_eq_true rfl) (z_so8_5 rfl) ?_
        refine z_iconst_1 (pc := 44) dX6_letsIn_44 ?_
        refine z_istore (pc := 45) dX6_letsIn_45 (Nat.le_of_ble_eq_true rfl) (z_so8_6 rfl) ?_
        exact kX6_letsIn_47 D  hD z_FU a1 a2 (-1 : Int32) (-1 : Int32) (s3.1 0 12) (1 : Int32) s3
      · refine z_bipush_m3 (pc := 30) dX6_letsIn_30 ?_
        exact z_iret (pc := 32) dX6_letsIn_32 rfl rfl
    · refine z_bipush_m2 (pc := 18) dX6_letsIn_18 ?_
      exact z_iret (pc := 20) dX6_letsIn_20 rfl rfl
def zGH_ok (G : Int32 → z_Mem → Option (Int32 × z_Mem)) (D : Nat) : Prop := (∀ (a1 : Int32) (σ : z_Mem), z_Call YM mX6_shutBy D z_i [zR 0, zI a1] σ (G a1 σ))
def fX6_shutBy_21 (G : Int32 → z_Mem → Option (Int32 × z_Mem))  : Nat → Int32 → Int32 → Int32 → z_Mem → Option (Int32 × z_Mem)
  | 0, _, _, _, _ => none
  | q + 1, l1, l2, l3, σ => if (σ.1 0 12) * (σ.1 0 12) ≤ l3 then (z_gd (z_bool l2) (some (l2, σ))) else (if l2 = 0 then (z_gd (¬ (σ.1 0 12) = 0) (z_gd (¬ (σ.1 0 12) = 0) (if l3 - l3 / (σ.1 0 12) * (σ.1 0 12) ≤ l3 / (σ.1 0 12) then (fX6_shutBy_21 G  q l1 l2 (l3 + 1) σ) else (z_gd (¬ (σ.1 0 12) = 0) (z_gd (¬ (σ.1 0 12) = 0) (z_bd (fX6_change (l3 / (σ.1 0 12)) (l3 - l3 / (σ.1 0 12) * (σ.1 0 12)) σ) (fun _ s1 => z_bd (G (l1 - (1 : Int32)) s1) (fun r2 s2 => z_gd (¬ (s2.1 0 12) = 0) (z_gd (¬ (s2.1 0 12) = 0) (z_bd (fX6_change (l3 / (s2.1 0 12)) (l3 - l3 / (s2.1 0 12) * (s2.1 0 12)) s2) (fun _ s3 => fX6_shutBy_21 G  q l1 r2 (l3 + 1) s3))))))))))) else (z_gd (z_bool l2) (some (l2, σ))))
theorem kX6_shutBy_21 (D : Nat) (G : Int32 → z_Mem → Option (Int32 × z_Mem)) (hG : zGH_ok G D)   (hD : 74 ≤ D) : ∀ (q : Nat) (l1 : Int32) (l2 : Int32) (l3 : Int32)  (σ : z_Mem), z_Go YM mX6_shutBy (D + 1) z_i 21 [some (zR 0), some (zI l1), some (zI l2), some (zI l3)] [] σ (fX6_shutBy_21 G q l1 l2 l3 σ) := by
  intro q
  induction q with
  | zero => intros; exact z_none
  | succ q ih =>
    intro l1 l2 l3 σ
    rw [fX6_shutBy_21]
    refine z_iload_n (pc := 21) dX6_shutBy_21 rfl rfl ?_
    refine z_aload_n (pc := 22) dX6_shutBy_22 rfl rfl ?_
    refine gfX6_12 (pc := 23) dX6_shutBy_23 ym_0 w_12_16 rfl ?_
    refine z_aload_n (pc := 26) dX6_shutBy_26 rfl rfl ?_
    refine gfX6_12 (pc := 27) dX6_shutBy_27 ym_0 w_12_16 rfl ?_
    refine z_imul (pc := 30) dX6_shutBy_30 ?_
    refine z_icmp_ge (tgt := 99) (pc := 31) dX6_shutBy_31 (by decide) (fun _ => ?_) (fun _ => ?_)
    · refine z_iload_n (pc := 99) dX6_shutBy_99 rfl rfl ?_
      exact z_guard fun hz => z_iret (pc := 100) dX6_shutBy_100 rfl (z_narB hz)
    · refine z_iload_n (pc := 34) dX6_shutBy_34 rfl rfl ?_
      refine z_if_ne (tgt := 99) (pc := 35) dX6_shutBy_35 (by decide) (fun _ => ?_) (fun _ => ?_)
      · refine z_iload_n (pc := 99) dX6_shutBy_99 rfl rfl ?_
        exact z_guard fun hz => z_iret (pc := 100) dX6_shutBy_100 rfl (z_narB hz)
      · refine z_iload_n (pc := 38) dX6_shutBy_38 rfl rfl ?_
        refine z_aload_n (pc := 39) dX6_shutBy_39 rfl rfl ?_
        refine gfX6_12 (pc := 40) dX6_shutBy_40 ym_0 w_12_16 rfl ?_
        refine z_idiv (pc := 43) dX6_shutBy_43 ?_
        refine z_iload_n (pc := 44) dX6_shutBy_44 rfl rfl ?_
        refine z_aload_n (pc := 45) dX6_shutBy_45 rfl rfl ?_
        refine gfX6_12 (pc := 46) dX6_shutBy_46 ym_0 w_12_16 rfl ?_
        refine z_irem (pc := 49) dX6_shutBy_49 ?_
        refine z_icmp_ge (tgt := 93) (pc := 50) dX6_shutBy_50 (by decide) (fun _ => ?_) (fun _ => ?_)
        · refine z_iinc (y := 1) (pc := 93) dX6_shutBy_93 rfl (by decide) (Nat.le_of_ble_eq_true rfl) (z_so4_3 rfl) ?_
          refine z_goto (tgt := 21) (pc := 96) dX6_shutBy_96 (by decide) ?_
          exact ih l1 l2 (l3 + 1) σ
        · refine z_aload_n (pc := 53) dX6_shutBy_53 rfl rfl ?_
          refine z_iload_n (pc := 54) dX6_shutBy_54 rfl rfl ?_
          refine z_aload_n (pc := 55) dX6_shutBy_55 rfl rfl ?_
          refine gfX6_12 (pc := 56) dX6_shutBy_56 ym_0 w_12_16 rfl ?_
          refine z_idiv (pc := 59) dX6_shutBy_59 ?_
          refine z_iload_n (pc := 60) dX6_shutBy_60 rfl rfl ?_
          refine z_aload_n (pc := 61) dX6_shutBy_61 rfl rfl ?_
          refine gfX6_12 (pc := 62) dX6_shutBy_62 ym_0 w_12_16 rfl ?_
          refine z_irem (pc := 65) dX6_shutBy_65 ?_
          refine z_V2u (pc := 66) dX6_shutBy_66 lVX6_279 ym_0 rfl (Nat.le_of_ble_eq_true rfl) (kX6_change (l3 / (σ.1 0 12)) (l3 - l3 / (σ.1 0 12) * (σ.1 0 12)) σ D (by omega)) (fun _ s1 => ?_)
          refine z_aload_n (pc := 69) dX6_shutBy_69 rfl rfl ?_
          refine z_iload_n (pc := 70) dX6_shutBy_70 rfl rfl ?_
          refine z_iconst_1 (pc := 71) dX6_shutBy_71 ?_
          refine z_isub (pc := 72) dX6_shutBy_72 ?_
          refine z_V1i (pc := 73) dX6_shutBy_73 lVX6_309 ym_0 rfl (Nat.le_of_ble_eq_true rfl) (hG (l1 - (1 : Int32)) s1) (fun r2 s2 => ?_)
          refine z_istore_n (pc := 76) dX6_shutBy_76 rfl (Nat.le_of_ble_eq_true rfl) (z_so4_2 rfl) ?_
          refine z_aload_n (pc := 77) dX6_shutBy_77 rfl rfl ?_
          refine z_iload_n (pc := 78) dX6_shutBy_78 rfl rfl ?_
          refine z_aload_n (pc := 79) dX6_shutBy_79 rfl rfl ?_
          refine gfX6_12 (pc := 80) dX6_shutBy_80 ym_0 w_12_16 rfl ?_
          refine z_idiv (pc := 83) dX6_shutBy_83 ?_
          refine z_iload_n (pc := 84) dX6_shutBy_84 rfl rfl ?_
          refine z_aload_n (pc := 85) dX6_shutBy_85 rfl rfl ?_
          refine gfX6_12 (pc := 86) dX6_shutBy_86 ym_0 w_12_16 rfl ?_
          refine z_irem (pc := 89) dX6_shutBy_89 ?_
          refine z_V2u (pc := 90) dX6_shutBy_90 lVX6_279 ym_0 rfl (Nat.le_of_ble_eq_true rfl) (kX6_change (l3 / (s2.1 0 12)) (l3 - l3 / (s2.1 0 12) * (s2.1 0 12)) s2 D (by omega)) (fun _ s3 => ?_)
          refine z_iinc (y := 1) (pc := 93) dX6_shutBy_93 rfl (by decide) (Nat.le_of_ble_eq_true rfl) (z_so4_3 rfl) ?_
          refine z_goto (tgt := 21) (pc := 96) dX6_shutBy_96 (by decide) ?_
          exact ih l1 r2 (l3 + 1) s3
def fX6_shutBy_b (G : Int32 → z_Mem → Option (Int32 × z_Mem)) (a1 : Int32) (σ : z_Mem) : Option (Int32 × z_Mem) :=
  if a1 = 0 then (z_bd (fX6_gates σ) (fun r4 s4 => if r4 = 0 then (some ((1 : Int32), s4)) else (some ((0 : Int32), s4)))) else (fX6_shutBy_21 G z_FU a1 (0 : Int32) (0 : Int32) σ)
theorem kX6_shutBy_b (D : Nat) (G : Int32 → z_Mem → Option (Int32 × z_Mem)) (hG : zGH_ok G D) (hD : 74 ≤ D) (a1 : Int32) (σ : z_Mem) : z_Call YM mX6_shutBy (D + 1) z_i [zR 0, zI a1] σ (fX6_shutBy_b G a1 σ) := by
  refine z_entry (lv := [some (zR 0), some (zI a1), none, none]) (by decide) rfl (Nat.le_of_ble_eq_true rfl) rfl ?_
  rw [fX6_shutBy_b]
  refine z_iload_n (pc := 0) dX6_shutBy_0 rfl rfl ?_
  refine z_if_ne (tgt := 17) (pc := 1) dX6_shutBy_1 (by decide) (fun _ => ?_) (fun _ => ?_)
  · refine z_iconst_0 (pc := 17) dX6_shutBy_17 ?_
    refine z_istore_n (pc := 18) dX6_shutBy_18 rfl (Nat.le_of_ble_eq_true rfl) (z_so4_2 rfl) ?_
    refine z_iconst_0 (pc := 19) dX6_shutBy_19 ?_
    refine z_istore_n (pc := 20) dX6_shutBy_20 rfl (Nat.le_of_ble_eq_true rfl) (z_so4_3 rfl) ?_
    exact kX6_shutBy_21 D G hG  hD z_FU a1 (0 : Int32) (0 : Int32) σ
  · refine z_aload_n (pc := 4) dX6_shutBy_4 rfl rfl ?_
    refine z_V0i (pc := 5) dX6_shutBy_5 lVX6_265 ym_0 rfl (Nat.le_of_ble_eq_true rfl) (kX6_gates σ D (by omega)) (fun r4 s4 => ?_)
    refine z_if_ne (tgt := 15) (pc := 8) dX6_shutBy_8 (by decide) (fun _ => ?_) (fun _ => ?_)
    · refine z_iconst_0 (pc := 15) dX6_shutBy_15 ?_
      exact z_iret (pc := 16) dX6_shutBy_16 rfl rfl
    · refine z_iconst_1 (pc := 11) dX6_shutBy_11 ?_
      refine z_goto (tgt := 16) (pc := 12) dX6_shutBy_12 (by decide) ?_
      exact z_iret (pc := 16) dX6_shutBy_16 rfl rfl
def zGH : Nat → Int32 → z_Mem → Option (Int32 × z_Mem)
  | 0, _, _ => none
  | n + 1, a1, σ => fX6_shutBy_b (zGH n) a1 σ
theorem zGH_all : ∀ (n D : Nat), n + 74 ≤ D → zGH_ok (zGH n) D
  | 0, D, _ => fun _ _ => z_callNone
  | n + 1, D0, hD => by
    obtain ⟨D, rfl⟩ : ∃ E, D0 = E + 1 := ⟨D0 - 1, by omega⟩
    have ih := zGH_all n
    exact fun a1 σ => kX6_shutBy_b D (zGH n) (ih D (by omega)) (by omega) a1 σ
def fX6_shutBy (a1 : Int32) (σ : z_Mem) : Option (Int32 × z_Mem) := zGH 64 a1 σ
theorem kX6_shutBy (a1 : Int32) (σ : z_Mem) (D : Nat) (hD : 138 ≤ D) : z_Call YM mX6_shutBy D z_i [zR 0, zI a1] σ (fX6_shutBy a1 σ) := (zGH_all 64 D (by omega)) a1 σ
def fX6_swaps_2  : Nat → Int32 → z_Mem → Option (Int32 × z_Mem)
  | 0, _, _ => none
  | q + 1, l1, σ => if (3 : Int32) ≤ l1 then (some ((-1 : Int32), σ)) else (z_bd (fX6_shutBy l1 σ) (fun r1 s1 => if r1 = 0 then (fX6_swaps_2  q (l1 + 1) s1) else (some (l1, s1))))
theorem kX6_swaps_2 (D : Nat)   (hD : 138 ≤ D) : ∀ (q : Nat) (l1 : Int32)  (σ : z_Mem), z_Go YM mX6_swaps (D + 1) z_i 2 [some (zR 0), some (zI l1)] [] σ (fX6_swaps_2 q l1 σ) := by
  intro q
  induction q with
  | zero => intros; exact z_none
  | succ q ih =>
    intro l1 σ
    rw [fX6_swaps_2]
    refine z_iload_n (pc := 2) dX6_swaps_2 rfl rfl ?_
    refine z_iconst_3 (pc := 3) dX6_swaps_3 ?_
    refine z_icmp_ge (tgt := 23) (pc := 4) dX6_swaps_4 (by decide) (fun _ => ?_) (fun _ => ?_)
    · refine z_iconst_m1 (pc := 23) dX6_swaps_23 ?_
      exact z_iret (pc := 24) dX6_swaps_24 rfl rfl
    · refine z_aload_n (pc := 7) dX6_swaps_7 rfl rfl ?_
      refine z_iload_n (pc := 8) dX6_swaps_8 rfl rfl ?_
      refine z_V1i (pc := 9) dX6_swaps_9 lVX6_309 ym_0 rfl (Nat.le_of_ble_eq_true rfl) (kX6_shutBy l1 σ D (by omega)) (fun r1 s1 => ?_)
      refine z_if_eq (tgt := 17) (pc := 12) dX6_swaps_12 (by decide) (fun _ => ?_) (fun _ => ?_)
      · refine z_iinc (y := 1) (pc := 17) dX6_swaps_17 rfl (by decide) (Nat.le_of_ble_eq_true rfl) (z_so2_1 rfl) ?_
        refine z_goto (tgt := 2) (pc := 20) dX6_swaps_20 (by decide) ?_
        exact ih (l1 + 1) s1
      · refine z_iload_n (pc := 15) dX6_swaps_15 rfl rfl ?_
        exact z_iret (pc := 16) dX6_swaps_16 rfl rfl
def fX6_swaps   (σ : z_Mem) : Option (Int32 × z_Mem) :=
  fX6_swaps_2 z_FU (0 : Int32) σ
theorem kX6_swaps    (σ : z_Mem) (D : Nat) (hD : 139 ≤ D) : z_Call YM mX6_swaps D z_i [zR 0] σ (fX6_swaps σ) := by
  obtain ⟨D, rfl⟩ : ∃ E, D = E + 1 := ⟨D - 1, by omega⟩
  replace hD : 138 ≤ D := by omega
  refine z_entry (lv := [some (zR 0), none]) (by decide) rfl (Nat.le_of_ble_eq_true rfl) rfl ?_
  rw [fX6_swaps]
  refine z_iconst_0 (pc := 0) dX6_swaps_0 ?_
  refine z_istore_n (pc := 1) dX6_swaps_1 rfl (Nat.le_of_ble_eq_true rfl) (z_so2_1 rfl) ?_
  exact kX6_swaps_2 D  hD z_FU (0 : Int32) σ
def fX6_lowest_6  : Nat → Int64 → Int64 → Int32 → Int64 → Int64 → z_Mem → Option (Int64 × z_Mem)
  | 0, _, _, _, _, _, _ => none
  | q + 1, l0, l2, l4, l5, l7, σ => if lg_cmp l7 (0 : Int64) = 0 then (if l4 = 0 then (z_gd (¬ l5 = 0) (some (l0 / l5, σ))) else (z_gd (¬ l5 = 0) (some (l2 / l5, σ)))) else (z_gd (¬ l7 = 0) (fX6_lowest_6  q l0 l2 l4 l7 (l5 - l5 / l7 * l7) σ))
theorem kX6_lowest_6 (D : Nat)   (hD : 0 ≤ D) : ∀ (q : Nat) (l0 : Int64) (l2 : Int64) (l4 : Int32) (l5 : Int64) (l7 : Int64)  (σ : z_Mem), z_Go YM mX6_lowest (D + 1) z_l 6 [some (zL l0), none, some (zL l2), none, some (zI l4), some (zL l5), none, some (zL l7), none, none, none] [] σ (fX6_lowest_6 q l0 l2 l4 l5 l7 σ) := by
  intro q
  induction q with
  | zero => intros; exact z_none
  | succ q ih =>
    intro l0 l2 l4 l5 l7 σ
    rw [fX6_lowest_6]
    refine z_lload (pc := 6) dX6_lowest_6 rfl ?_
    refine z_lconst (v := 0) (pc := 8) dX6_lowest_8 rfl ?_
    refine z_lcmp (pc := 9) dX6_lowest_9 ?_
    refine z_if_eq (tgt := 31) (pc := 10) dX6_lowest_10 (by decide) (fun _ => ?_) (fun _ => ?_)
    · refine z_iload (pc := 31) dX6_lowest_31 rfl ?_
      refine z_if_ne (tgt := 43) (pc := 33) dX6_lowest_33 (by decide) (fun _ => ?_) (fun _ => ?_)
      · refine z_lload_n (pc := 43) dX6_lowest_43 rfl rfl ?_
        refine z_lload (pc := 44) dX6_lowest_44 rfl ?_
        refine z_ldiv (pc := 46) dX6_lowest_46 ?_
        exact z_lret (pc := 47) dX6_lowest_47 rfl
      · refine z_lload_n (pc := 36) dX6_lowest_36 rfl rfl ?_
        refine z_lload (pc := 37) dX6_lowest_37 rfl ?_
        refine z_ldiv (pc := 39) dX6_lowest_39 ?_
        refine z_goto (tgt := 47) (pc := 40) dX6_lowest_40 (by decide) ?_
        exact z_lret (pc := 47) dX6_lowest_47 rfl
    · refine z_lload (pc := 13) dX6_lowest_13 rfl ?_
      refine z_lload (pc := 15) dX6_lowest_15 rfl ?_
      refine z_lrem (pc := 17) dX6_lowest_17 ?_
      refine z_lstore (pc := 18) dX6_lowest_18 (Nat.le_of_ble_eq_true rfl) (z_sl11_9 rfl) ?_
      refine z_lload (pc := 20) dX6_lowest_20 rfl ?_
      refine z_lstore (pc := 22) dX6_lowest_22 (Nat.le_of_ble_eq_true rfl) (z_sl11_5 rfl) ?_
      refine z_lload (pc := 24) dX6_lowest_24 rfl ?_
      refine z_lstore (pc := 26) dX6_lowest_26 (Nat.le_of_ble_eq_true rfl) (z_sl11_7 rfl) ?_
      refine z_goto (tgt := 6) (pc := 28) dX6_lowest_28 (by decide) ?_
      exact z_weak (lv' := [some (zL l0), none, some (zL l2), none, some (zI l4), some (zL l7), none, some (zL (l5 - l5 / l7 * l7)), none, none, none]) (z_sub_ok ⟨rfl, rfl, rfl, rfl, rfl, trivial⟩) (ih l0 l2 l4 l7 (l5 - l5 / l7 * l7) σ)
def fX6_lowest  (a1 : Int64) (a2 : Int64) (a3 : Int32) (σ : z_Mem) : Option (Int64 × z_Mem) :=
  fX6_lowest_6 z_FU a1 a2 a3 a1 a2 σ
theorem kX6_lowest   (a1 : Int64) (a2 : Int64) (a3 : Int32) (σ : z_Mem) (D : Nat) (hD : 1 ≤ D) : z_Call YM mX6_lowest D z_l [zL a1, zL a2, zI a3] σ (fX6_lowest a1 a2 a3 σ) := by
  obtain ⟨D, rfl⟩ : ∃ E, D = E + 1 := ⟨D - 1, by omega⟩
  replace hD : 0 ≤ D := by omega
  refine z_entry (lv := [some (zL a1), none, some (zL a2), none, some (zI a3), none, none, none, none, none, none]) (by decide) rfl (Nat.le_of_ble_eq_true rfl) rfl ?_
  rw [fX6_lowest]
  refine z_lload_n (pc := 0) dX6_lowest_0 rfl rfl ?_
  refine z_lstore (pc := 1) dX6_lowest_1 (Nat.le_of_ble_eq_true rfl) (z_sl11_5 rfl) ?_
  refine z_lload_n (pc := 3) dX6_lowest_3 rfl rfl ?_
  refine z_lstore (pc := 4) dX6_lowest_4 (Nat.le_of_ble_eq_true rfl) (z_sl11_7 rfl) ?_
  exact kX6_lowest_6 D  hD z_FU a1 a2 a3 a1 a2 σ
def fX6_mean_25  : Nat → Int32 → Int32 → Int32 → z_Mem → Option (Int64 × z_Mem)
  | 0, _, _, _, _ => none
  | q + 1, l1, l2, l3, σ => if σ.1 0 12 ≤ l3 then (z_bd (fX6_lowest l2.toInt64 ((σ.1 0 12).toInt64) l1 σ) (fun r2 s2 => some (r2, s2))) else (z_gd (z_in l3 6) (z_gd (z_in (((3 : Int32) * (σ.1 5 (z_x l3))) + (1 : Int32)) 18) (fX6_mean_25  q l1 (l2 + (σ.1 4 (z_x (((3 : Int32) * (σ.1 5 (z_x l3))) + (1 : Int32))))) (l3 + 1) σ)))
theorem kX6_mean_25 (D : Nat)   (hD : 1 ≤ D) : ∀ (q : Nat) (l1 : Int32) (l2 : Int32) (l3 : Int32)  (σ : z_Mem), z_Go YM mX6_mean (D + 1) z_l 25 [some (zR 0), some (zI l1), some (zI l2), some (zI l3)] [] σ (fX6_mean_25 q l1 l2 l3 σ) := by
  intro q
  induction q with
  | zero => intros; exact z_none
  | succ q ih =>
    intro l1 l2 l3 σ
    rw [fX6_mean_25]
    refine z_iload_n (pc := 25) dX6_mean_25 rfl rfl ?_
    refine z_aload_n (pc := 26) dX6_mean_26 rfl rfl ?_
    refine gfX6_12 (pc := 27) dX6_mean_27 ym_0 w_12_16 rfl ?_
    refine z_icmp_ge (tgt := 57) (pc := 30) dX6_mean_30 (by decide) (fun _ => ?_) (fun _ => ?_)
    · refine z_iload_n (pc := 57) dX6_mean_57 rfl rfl ?_
      refine z_i2l (pc := 58) dX6_mean_58 ?_
      refine z_aload_n (pc := 59) dX6_mean_59 rfl rfl ?_
      refine gfX6_12 (pc := 60) dX6_mean_60 ym_0 w_12_16 rfl ?_
      refine z_i2l (pc := 63) dX6_mean_63 ?_
      refine z_iload_n (pc := 64) dX6_mean_64 rfl rfl ?_
      refine z_S3l (pc := 65) dX6_mean_65 lSX6_314 (Nat.le_of_ble_eq_true rfl) (kX6_lowest l2.toInt64 ((σ.1 0 12).toInt64) l1 σ D (by omega)) (fun r2 s2 => ?_)
      exact z_lret (pc := 68) dX6_mean_68 rfl
    · refine z_iload_n (pc := 33) dX6_mean_33 rfl rfl ?_
      refine z_aload_n (pc := 34) dX6_mean_34 rfl rfl ?_
      refine gfX6_9 (pc := 35) dX6_mean_35 ym_0 w_10_10 rfl ?_
      refine z_iconst_3 (pc := 38) dX6_mean_38 ?_
      refine z_aload_n (pc := 39) dX6_mean_39 rfl rfl ?_
      refine gfX6_11 (pc := 40) dX6_mean_40 ym_0 w_10_11 rfl ?_
      refine z_iload_n (pc := 43) dX6_mean_43 rfl rfl ?_
      refine z_iald (pc := 44) dX6_mean_44 ym_5 ?_
      refine z_imul (pc := 45) dX6_mean_45 ?_
      refine z_iconst_1 (pc := 46) dX6_mean_46 ?_
      refine z_iadd (pc := 47) dX6_mean_47 ?_
      refine z_iald (pc := 48) dX6_mean_48 ym_4 ?_
      refine z_iadd (pc := 49) dX6_mean_49 ?_
      refine z_istore_n (pc := 50) dX6_mean_50 rfl (Nat.le_of_ble_eq_true rfl) (z_so4_2 rfl) ?_
      refine z_iinc (y := 1) (pc := 51) dX6_mean_51 rfl (by decide) (Nat.le_of_ble_eq_true rfl) (z_so4_3 rfl) ?_
      refine z_goto (tgt := 25) (pc := 54) dX6_mean_54 (by decide) ?_
      exact ih l1 (l2 + (σ.1 4 (z_x (((3 : Int32) * (σ.1 5 (z_x l3))) + (1 : Int32))))) (l3 + 1) σ
def fX6_mean  (a1 : Int32) (σ : z_Mem) : Option (Int64 × z_Mem) :=
  z_bd (fX6_in a1.toInt64 (0 : Int64) (1 : Int64) σ) (fun r1 s1 => if r1 = 0 then (some ((-4611686018427387904 : Int64), s1)) else (if s1.1 0 12 = 0 then (some ((-4611686018427387904 : Int64), s1)) else (fX6_mean_25 z_FU a1 (0 : Int32) (0 : Int32) s1)))
theorem kX6_mean   (a1 : Int32) (σ : z_Mem) (D : Nat) (hD : 2 ≤ D) : z_Call YM mX6_mean D z_l [zR 0, zI a1] σ (fX6_mean a1 σ) := by
  obtain ⟨D, rfl⟩ : ∃ E, D = E + 1 := ⟨D - 1, by omega⟩
  replace hD : 1 ≤ D := by omega
  refine z_entry (lv := [some (zR 0), some (zI a1), none, none]) (by decide) rfl (Nat.le_of_ble_eq_true rfl) rfl ?_
  rw [fX6_mean]
  refine z_iload_n (pc := 0) dX6_mean_0 rfl rfl ?_
  refine z_i2l (pc := 1) dX6_mean_1 ?_
  refine z_lconst (v := 0) (pc := 2) dX6_mean_2 rfl ?_
  refine z_lconst (v := 1) (pc := 3) dX6_mean_3 rfl ?_
  refine z_S3i (pc := 4) dX6_mean_4 lSX6_70 (Nat.le_of_ble_eq_true rfl) (kX6_in a1.toInt64 (0 : Int64) (1 : Int64) σ D (by omega)) (fun r1 s1 => ?_)
  refine z_if_eq (tgt := 17) (pc := 7) dX6_mean_7 (by decide) (fun _ => ?_) (fun _ => ?_)
  · refine z_ldc2 (v := -4611686018427387904) (pc := 17) dX6_mean_17 w_34_8 ?_
    exact z_lret (pc := 20) dX6_mean_20 rfl
  · refine z_aload_n (pc := 10) dX6_mean_10 rfl rfl ?_
    refine gfX6_12 (pc := 11) dX6_mean_11 ym_0 w_12_16 rfl ?_
    refine z_if_ne (tgt := 21) (pc := 14) dX6_mean_14 (by decide) (fun _ => ?_) (fun _ => ?_)
    · refine z_iconst_0 (pc := 21) dX6_mean_21 ?_
      refine z_istore_n (pc := 22) dX6_mean_22 rfl (Nat.le_of_ble_eq_true rfl) (z_so4_2 rfl) ?_
      refine z_iconst_0 (pc := 23) dX6_mean_23 ?_
      refine z_istore_n (pc := 24) dX6_mean_24 rfl (Nat.le_of_ble_eq_true rfl) (z_so4_3 rfl) ?_
      exact kX6_mean_25 D  hD z_FU a1 (0 : Int32) (0 : Int32) s1
    · refine z_ldc2 (v := -4611686018427387904) (pc := 17) dX6_mean_17 w_34_8 ?_
      exact z_lret (pc := 20) dX6_mean_20 rfl
def fX6_isSheet  (a1 : Int32) (σ : z_Mem) : Option (Int32 × z_Mem) :=
  z_bd (fX6_in a1.toInt64 (0 : Int64) (3 : Int64) σ) (fun r1 s1 => z_gd (z_bool r1) (some (r1, s1)))
theorem kX6_isSheet   (a1 : Int32) (σ : z_Mem) (D : Nat) (hD : 2 ≤ D) : z_Call YM mX6_isSheet D z_i [zI a1] σ (fX6_isSheet a1 σ) := by
  obtain ⟨D, rfl⟩ : ∃ E, D = E + 1 := ⟨D - 1, by omega⟩
  replace hD : 1 ≤ D := by omega
  refine z_entry (lv := [some (zI a1)]) (by decide) rfl (Nat.le_of_ble_eq_true rfl) rfl ?_
  rw [fX6_isSheet]
  refine z_iload_n (pc := 0) dX6_isSheet_0 rfl rfl ?_
  refine z_i2l (pc := 1) dX6_isSheet_1 ?_
  refine z_lconst (v := 0) (pc := 2) dX6_isSheet_2 rfl ?_
  refine z_ldc2 (v := 3) (pc := 3) dX6_isSheet_3 w_12_8 ?_
  refine z_S3i (pc := 6) dX6_isSheet_6 lSX6_70 (Nat.le_of_ble_eq_true rfl) (kX6_in a1.toInt64 (0 : Int64) (3 : Int64) σ D (by omega)) (fun r1 s1 => ?_)
  exact z_guard fun hz => z_iret (pc := 9) dX6_isSheet_9 rfl (z_narB hz)
def fX6_firstOther_2  : Nat → Int32 → Int32 → z_Mem → Option (Int32 × z_Mem)
  | 0, _, _, _ => none
  | q + 1, l1, l2, σ => z_gd (z_in l1 4) (if σ.1 13 (z_x l1) ≤ l2 then (some ((-1 : Int32), σ)) else (if σ.1 0 12 ≤ l2 then (some (l2, σ)) else (if σ.1 0 12 < (2 : Int32) then (some (l2, σ)) else (z_bd (fX6_hold l2 σ) (fun r1 s1 => z_gd (z_in (((40 : Int32) * l1) + l2) 160) (if r1 = s1.1 14 (z_x (((40 : Int32) * l1) + l2)) then (fX6_firstOther_2  q l1 (l2 + 1) s1) else (some (l2, s1))))))))
theorem kX6_firstOther_2 (D : Nat)   (hD : 73 ≤ D) : ∀ (q : Nat) (l1 : Int32) (l2 : Int32)  (σ : z_Mem), z_Go YM mX6_firstOther (D + 1) z_i 2 [some (zR 0), some (zI l1), some (zI l2)] [] σ (fX6_firstOther_2 q l1 l2 σ) := by
  intro q
  induction q with
  | zero => intros; exact z_none
  | succ q ih =>
    intro l1 l2 σ
    rw [fX6_firstOther_2]
    refine z_iload_n (pc := 2) dX6_firstOther_2 rfl rfl ?_
    refine z_aload_n (pc := 3) dX6_firstOther_3 rfl rfl ?_
    refine gfX6_42 (pc := 4) dX6_firstOther_4 ym_0 w_10_21 rfl ?_
    refine z_iload_n (pc := 7) dX6_firstOther_7 rfl rfl ?_
    refine z_iald (pc := 8) dX6_firstOther_8 ym_13 ?_
    refine z_icmp_ge (tgt := 55) (pc := 9) dX6_firstOther_9 (by decide) (fun _ => ?_) (fun _ => ?_)
    · refine z_iconst_m1 (pc := 55) dX6_firstOther_55 ?_
      exact z_iret (pc := 56) dX6_firstOther_56 rfl rfl
    · refine z_iload_n (pc := 12) dX6_firstOther_12 rfl rfl ?_
      refine z_aload_n (pc := 13) dX6_firstOther_13 rfl rfl ?_
      refine gfX6_12 (pc := 14) dX6_firstOther_14 ym_0 w_12_16 rfl ?_
      refine z_icmp_ge (tgt := 47) (pc := 17) dX6_firstOther_17 (by decide) (fun _ => ?_) (fun _ => ?_)
      · refine z_iload_n (pc := 47) dX6_firstOther_47 rfl rfl ?_
        exact z_iret (pc := 48) dX6_firstOther_48 rfl rfl
      · refine z_aload_n (pc := 20) dX6_firstOther_20 rfl rfl ?_
        refine gfX6_12 (pc := 21) dX6_firstOther_21 ym_0 w_12_16 rfl ?_
        refine z_iconst_2 (pc := 24) dX6_firstOther_24 ?_
        refine z_icmp_lt (tgt := 47) (pc := 25) dX6_firstOther_25 (by decide) (fun _ => ?_) (fun _ => ?_)
        · refine z_iload_n (pc := 47) dX6_firstOther_47 rfl rfl ?_
          exact z_iret (pc := 48) dX6_firstOther_48 rfl rfl
        · refine z_aload_n (pc := 28) dX6_firstOther_28 rfl rfl ?_
          refine z_iload_n (pc := 29) dX6_firstOther_29 rfl rfl ?_
          refine z_V1i (pc := 30) dX6_firstOther_30 lVX6_125 ym_0 rfl (Nat.le_of_ble_eq_true rfl) (kX6_hold l2 σ D (by omega)) (fun r1 s1 => ?_)
          refine z_aload_n (pc := 33) dX6_firstOther_33 rfl rfl ?_
          refine gfX6_43 (pc := 34) dX6_firstOther_34 ym_0 w_10_22 rfl ?_
          refine z_bipush_40 (pc := 37) dX6_firstOther_37 ?_
          refine z_iload_n (pc := 39) dX6_firstOther_39 rfl rfl ?_
          refine z_imul (pc := 40) dX6_firstOther_40 ?_
          refine z_iload_n (pc := 41) dX6_firstOther_41 rfl rfl ?_
          refine z_iadd (pc := 42) dX6_firstOther_42 ?_
          refine z_iald (pc := 43) dX6_firstOther_43 ym_14 ?_
          refine z_icmp_eq (tgt := 49) (pc := 44) dX6_firstOther_44 (by decide) (fun _ => ?_) (fun _ => ?_)
          · refine z_iinc (y := 1) (pc := 49) dX6_firstOther_49 rfl (by decide) (Nat.le_of_ble_eq_true rfl) (z_so3_2 rfl) ?_
            refine z_goto (tgt := 2) (pc := 52) dX6_firstOther_52 (by decide) ?_
            exact ih l1 (l2 + 1) s1
          · refine z_iload_n (pc := 47) dX6_firstOther_47 rfl rfl ?_
            exact z_iret (pc := 48) dX6_firstOther_48 rfl rfl
def fX6_firstOther  (a1 : Int32) (σ : z_Mem) : Option (Int32 × z_Mem) :=
  fX6_firstOther_2 z_FU a1 (0 : Int32) σ
theorem kX6_firstOther   (a1 : Int32) (σ : z_Mem) (D : Nat) (hD : 74 ≤ D) : z_Call YM mX6_firstOther D z_i [zR 0, zI a1] σ (fX6_firstOther a1 σ) := by
  obtain ⟨D, rfl⟩ : ∃ E, D = E + 1 := ⟨D - 1, by omega⟩
  replace hD : 73 ≤ D := by omega
  refine z_entry (lv := [some (zR 0), some (zI a1), none]) (by decide) rfl (Nat.le_of_ble_eq_true rfl) rfl ?_
  rw [fX6_firstOther]
  refine z_iconst_0 (pc := 0) dX6_firstOther_0 ?_
  refine z_istore_n (pc := 1) dX6_firstOther_1 rfl (Nat.le_of_ble_eq_true rfl) (z_so3_2 rfl) ?_
  exact kX6_firstOther_2 D  hD z_FU a1 (0 : Int32) σ
def fX6_tells_181  : Nat → Int32 → Int32 → Int32 → Int32 → Int32 → Int32 → Int32 → Int32 → Int32 → z_Mem → Option (Int32 × z_Mem)
  | 0, _, _, _, _, _, _, _, _, _, _ => none
  | q + 1, l1, l2, l3, l4, l5, l7, l8, l9, l10, σ => if l10 < 0 then (z_bd (fX6_lays l4 l2 l5 σ) (fun _ s5 => if l3 = (3 : Int32) then (some (l8, s5)) else (if l3 = (5 : Int32) then (some (l8, s5)) else (if l3 = (4 : Int32) then (some (l9, s5)) else (if l3 = (6 : Int32) then (some (l9, s5)) else (some (l7, s5))))))) else (z_bd (fX6_lays l4 l2 l10 σ) (fun _ s6 => z_bd (fX6_firstOther l1 s6) (fun r7 s7 => if r7 = (-1 : Int32) then (if (10 : Int32) ≤ l10 then (fX6_tells_181  q l1 l2 l3 l4 l5 (l7 ||| (0 : Int32)) (l8 + 1) l10 (l10 + (-1 : Int32)) s7) else (fX6_tells_181  q l1 l2 l3 l4 l5 (l7 ||| ((1 : Int32) <<< (l10 &&& 31))) (l8 + 1) l10 (l10 + (-1 : Int32)) s7)) else (fX6_tells_181  q l1 l2 l3 l4 l5 l7 l8 l9 (l10 + (-1 : Int32)) s7))))
theorem kX6_tells_181 (D : Nat)   (hD : 74 ≤ D) : ∀ (q : Nat) (l1 : Int32) (l2 : Int32) (l3 : Int32) (l4 : Int32) (l5 : Int32) (l7 : Int32) (l8 : Int32) (l9 : Int32) (l10 : Int32)  (σ : z_Mem), z_Go YM mX6_tells (D + 1) z_i 181 [some (zR 0), some (zI l1), some (zI l2), some (zI l3), some (zI l4), some (zI l5), none, some (zI l7), some (zI l8), some (zI l9), some (zI l10)] [] σ (fX6_tells_181 q l1 l2 l3 l4 l5 l7 l8 l9 l10 σ) := by
  intro q
  induction q with
  | zero => intros; exact z_none
  | succ q ih =>
    intro l1 l2 l3 l4 l5 l7 l8 l9 l10 σ
    rw [fX6_tells_181]
    refine z_iload (pc := 181) dX6_tells_181 rfl ?_
    refine z_if_lt (tgt := 237) (pc := 183) dX6_tells_183 (by decide) (fun _ => ?_) (fun _ => ?_)
    · refine z_aload_n (pc := 237) dX6_tells_237 rfl rfl ?_
      refine z_iload (pc := 238) dX6_tells_238 rfl ?_
      refine z_iload_n (pc := 240) dX6_tells_240 rfl rfl ?_
      refine z_iload (pc := 241) dX6_tells_241 rfl ?_
      refine z_V3u (pc := 243) dX6_tells_243 lVX6_98 ym_0 rfl (Nat.le_of_ble_eq_true rfl) (kX6_lays l4 l2 l5 σ D (by omega)) (fun _ s5 => ?_)
      refine z_iload_n (pc := 246) dX6_tells_246 rfl rfl ?_
      refine z_iconst_3 (pc := 247) dX6_tells_247 ?_
      refine z_icmp_eq (tgt := 256) (pc := 248) dX6_tells_248 (by decide) (fun _ => ?_) (fun _ => ?_)
      · refine z_iload (pc := 256) dX6_tells_256 rfl ?_
        refine z_goto (tgt := 279) (pc := 258) dX6_tells_258 (by decide) ?_
        exact z_iret (pc := 279) dX6_tells_279 rfl rfl
      · refine z_iload_n (pc := 251) dX6_tells_251 rfl rfl ?_
        refine z_iconst_5 (pc := 252) dX6_tells_252 ?_
        refine z_icmp_ne (tgt := 261) (pc := 253) dX6_tells_253 (by decide) (fun _ => ?_) (fun _ => ?_)
        · refine z_iload_n (pc := 261) dX6_tells_261 rfl rfl ?_
          refine z_iconst_4 (pc := 262) dX6_tells_262 ?_
          refine z_icmp_eq (tgt := 272) (pc := 263) dX6_tells_263 (by decide) (fun _ => ?_) (fun _ => ?_)
          · refine z_iload (pc := 272) dX6_tells_272 rfl ?_
            refine z_goto (tgt := 279) (pc := 274) dX6_tells_274 (by decide) ?_
            exact z_iret (pc := 279) dX6_tells_279 rfl rfl
          · refine z_iload_n (pc := 266) dX6_tells_266 rfl rfl ?_
            refine z_bipush_6 (pc := 267) dX6_tells_267 ?_
            refine z_icmp_ne (tgt := 277) (pc := 269) dX6_tells_269 (by decide) (fun _ => ?_) (fun _ => ?_)
            · refine z_iload (pc := 277) dX6_tells_277 rfl ?_
              exact z_iret (pc := 279) dX6_tells_279 rfl rfl
            · refine z_iload (pc := 272) dX6_tells_272 rfl ?_
              refine z_goto (tgt := 279) (pc := 274) dX6_tells_274 (by decide) ?_
              exact z_iret (pc := 279) dX6_tells_279 rfl rfl
        · refine z_iload (pc := 256) dX6_tells_256 rfl ?_
          refine z_goto (tgt := 279) (pc := 258) dX6_tells_258 (by decide) ?_
          exact z_iret (pc := 279) dX6_tells_279 rfl rfl
    · refine z_aload_n (pc := 186) dX6_tells_186 rfl rfl ?_
      refine z_iload (pc := 187) dX6_tells_187 rfl ?_
      refine z_iload_n (pc := 189) dX6_tells_189 rfl rfl ?_
      refine z_iload (pc := 190) dX6_tells_190 rfl ?_
      refine z_V3u (pc := 192) dX6_tells_192 lVX6_98 ym_0 rfl (Nat.le_of_ble_eq_true rfl) (kX6_lays l4 l2 l10 σ D (by omega)) (fun _ s6 => ?_)
      refine z_aload_n (pc := 195) dX6_tells_195 rfl rfl ?_
      refine z_iload_n (pc := 196) dX6_tells_196 rfl rfl ?_
      refine z_V1i (pc := 197) dX6_tells_197 lVX6_323 ym_0 rfl (Nat.le_of_ble_eq_true rfl) (kX6_firstOther l1 s6 D (by omega)) (fun r7 s7 => ?_)
      refine z_iconst_m1 (pc := 200) dX6_tells_200 ?_
      refine z_icmp_ne (tgt := 231) (pc := 201) dX6_tells_201 (by decide) (fun _ => ?_) (fun _ => ?_)
      · refine z_iinc (y := -1) (pc := 231) dX6_tells_231 rfl (by decide) (Nat.le_of_ble_eq_true rfl) (z_so11_10 rfl) ?_
        refine z_goto (tgt := 181) (pc := 234) dX6_tells_234 (by decide) ?_
        exact ih l1 l2 l3 l4 l5 l7 l8 l9 (l10 + (-1 : Int32)) s7
      · refine z_iload (pc := 204) dX6_tells_204 rfl ?_
        refine z_iload (pc := 206) dX6_tells_206 rfl ?_
        refine z_bipush_10 (pc := 208) dX6_tells_208 ?_
        refine z_icmp_ge (tgt := 220) (pc := 210) dX6_tells_210 (by decide) (fun _ => ?_) (fun _ => ?_)
        · refine z_iconst_0 (pc := 220) dX6_tells_220 ?_
          refine z_ior (pc := 221) dX6_tells_221 ?_
          refine z_istore (pc := 222) dX6_tells_222 (Nat.le_of_ble_eq_true rfl) (z_so11_7 rfl) ?_
          refine z_iinc (y := 1) (pc := 224) dX6_tells_224 rfl (by decide) (Nat.le_of_ble_eq_true rfl) (z_so11_8 rfl) ?_
          refine z_iload (pc := 227) dX6_tells_227 rfl ?_
          refine z_istore (pc := 229) dX6_tells_229 (Nat.le_of_ble_eq_true rfl) (z_so11_9 rfl) ?_
          refine z_iinc (y := -1) (pc := 231) dX6_tells_231 rfl (by decide) (Nat.le_of_ble_eq_true rfl) (z_so11_10 rfl) ?_
          refine z_goto (tgt := 181) (pc := 234) dX6_tells_234 (by decide) ?_
          exact ih l1 l2 l3 l4 l5 (l7 ||| (0 : Int32)) (l8 + 1) l10 (l10 + (-1 : Int32)) s7
        · refine z_iconst_1 (pc := 213) dX6_tells_213 ?_
          refine z_iload (pc := 214) dX6_tells_214 rfl ?_
          refine z_ishl (pc := 216) dX6_tells_216 ?_
          refine z_goto (tgt := 221) (pc := 217) dX6_tells_217 (by decide) ?_
          refine z_ior (pc := 221) dX6_tells_221 ?_
          refine z_istore (pc := 222) dX6_tells_222 (Nat.le_of_ble_eq_true rfl) (z_so11_7 rfl) ?_
          refine z_iinc (y := 1) (pc := 224) dX6_tells_224 rfl (by decide) (Nat.le_of_ble_eq_true rfl) (z_so11_8 rfl) ?_
          refine z_iload (pc := 227) dX6_tells_227 rfl ?_
          refine z_istore (pc := 229) dX6_tells_229 (Nat.le_of_ble_eq_true rfl) (z_so11_9 rfl) ?_
          refine z_iinc (y := -1) (pc := 231) dX6_tells_231 rfl (by decide) (Nat.le_of_ble_eq_true rfl) (z_so11_10 rfl) ?_
          refine z_goto (tgt := 181) (pc := 234) dX6_tells_234 (by decide) ?_
          exact ih l1 l2 l3 l4 l5 (l7 ||| ((1 : Int32) <<< (l10 &&& 31))) (l8 + 1) l10 (l10 + (-1 : Int32)) s7
def fX6_tells_j166  (l1 : Int32) (l2 : Int32) (l3 : Int32) (l4 : Int32) (l5 : Int32) (t0 : Int32) (σ : z_Mem) : Option (Int32 × z_Mem) :=
  fX6_tells_181 z_FU l1 l2 l3 l4 l5 (0 : Int32) (0 : Int32) (-1 : Int32) t0 σ
theorem kX6_tells_j166 (D : Nat)   (hD : 74 ≤ D) (l1 : Int32) (l2 : Int32) (l3 : Int32) (l4 : Int32) (l5 : Int32) (t0 : Int32)  (σ : z_Mem) : z_Go YM mX6_tells (D + 1) z_i 166 [some (zR 0), some (zI l1), some (zI l2), some (zI l3), some (zI l4), some (zI l5), none, none, none, none, none] [zI t0] σ (fX6_tells_j166 l1 l2 l3 l4 l5 t0 σ) := by
  rw [fX6_tells_j166]
  refine z_istore (pc := 166) dX6_tells_166 (Nat.le_of_ble_eq_true rfl) (z_so11_6 rfl) ?_
  refine z_iconst_0 (pc := 168) dX6_tells_168 ?_
  refine z_istore (pc := 169) dX6_tells_169 (Nat.le_of_ble_eq_true rfl) (z_so11_7 rfl) ?_
  refine z_iconst_0 (pc := 171) dX6_tells_171 ?_
  refine z_istore (pc := 172) dX6_tells_172 (Nat.le_of_ble_eq_true rfl) (z_so11_8 rfl) ?_
  refine z_iconst_m1 (pc := 174) dX6_tells_174 ?_
  refine z_istore (pc := 175) dX6_tells_175 (Nat.le_of_ble_eq_true rfl) (z_so11_9 rfl) ?_
  refine z_iload (pc := 177) dX6_tells_177 rfl ?_
  refine z_istore (pc := 179) dX6_tells_179 (Nat.le_of_ble_eq_true rfl) (z_so11_10 rfl) ?_
  exact z_weak (lv' := [some (zR 0), some (zI l1), some (zI l2), some (zI l3), some (zI l4), some (zI l5), none, some (zI (0 : Int32)), some (zI (0 : Int32)), some (zI (-1 : Int32)), some (zI t0)]) (z_sub_ok ⟨rfl, rfl, rfl, rfl, rfl, rfl, rfl, rfl, rfl, rfl, trivial⟩) (kX6_tells_181 D  hD z_FU l1 l2 l3 l4 l5 (0 : Int32) (0 : Int32) (-1 : Int32) t0 σ)
def fX6_tells_j126  (l1 : Int32) (l2 : Int32) (l3 : Int32) (l4 : Int32) (t0 : Int32) (σ : z_Mem) : Option (Int32 × z_Mem) :=
  if l4 = (5 : Int32) then (fX6_tells_j166 l1 l2 l3 l4 t0 ((σ.1 0 3) - (1 : Int32)) σ) else (if l4 = (4 : Int32) then (fX6_tells_j166 l1 l2 l3 l4 t0 (5 : Int32) σ) else (if l4 = (2 : Int32) then (fX6_tells_j166 l1 l2 l3 l4 t0 (9 : Int32) σ) else (fX6_tells_j166 l1 l2 l3 l4 t0 (99 : Int32) σ)))
theorem kX6_tells_j126 (D : Nat)   (hD : 74 ≤ D) (l1 : Int32) (l2 : Int32) (l3 : Int32) (l4 : Int32) (t0 : Int32)  (σ : z_Mem) : z_Go YM mX6_tells (D + 1) z_i 126 [some (zR 0), some (zI l1), some (zI l2), some (zI l3), some (zI l4), none, none, none, none, none, none] [zI t0] σ (fX6_tells_j126 l1 l2 l3 l4 t0 σ) := by
  rw [fX6_tells_j126]
  refine z_istore (pc := 126) dX6_tells_126 (Nat.le_of_ble_eq_true rfl) (z_so11_5 rfl) ?_
  refine z_iload (pc := 128) dX6_tells_128 rfl ?_
  refine z_iconst_5 (pc := 130) dX6_tells_130 ?_
  refine z_icmp_ne (tgt := 143) (pc := 131) dX6_tells_131 (by decide) (fun _ => ?_) (fun _ => ?_)
  · refine z_iload (pc := 143) dX6_tells_143 rfl ?_
    refine z_iconst_4 (pc := 145) dX6_tells_145 ?_
    refine z_icmp_ne (tgt := 153) (pc := 146) dX6_tells_146 (by decide) (fun _ => ?_) (fun _ => ?_)
    · refine z_iload (pc := 153) dX6_tells_153 rfl ?_
      refine z_iconst_2 (pc := 155) dX6_tells_155 ?_
      refine z_icmp_ne (tgt := 164) (pc := 156) dX6_tells_156 (by decide) (fun _ => ?_) (fun _ => ?_)
      · refine z_bipush_99 (pc := 164) dX6_tells_164 ?_
        exact kX6_tells_j166 D  hD l1 l2 l3 l4 t0 (99 : Int32) σ
      · refine z_bipush_9 (pc := 159) dX6_tells_159 ?_
        refine z_goto (tgt := 166) (pc := 161) dX6_tells_161 (by decide) ?_
        exact kX6_tells_j166 D  hD l1 l2 l3 l4 t0 (9 : Int32) σ
    · refine z_iconst_5 (pc := 149) dX6_tells_149 ?_
      refine z_goto (tgt := 166) (pc := 150) dX6_tells_150 (by decide) ?_
      exact kX6_tells_j166 D  hD l1 l2 l3 l4 t0 (5 : Int32) σ
  · refine z_aload_n (pc := 134) dX6_tells_134 rfl rfl ?_
    refine gfX6_3 (pc := 135) dX6_tells_135 ym_0 w_10_23 rfl ?_
    refine z_iconst_1 (pc := 138) dX6_tells_138 ?_
    refine z_isub (pc := 139) dX6_tells_139 ?_
    refine z_goto (tgt := 166) (pc := 140) dX6_tells_140 (by decide) ?_
    exact kX6_tells_j166 D  hD l1 l2 l3 l4 t0 ((σ.1 0 3) - (1 : Int32)) σ
def fX6_tells_j104  (l1 : Int32) (l2 : Int32) (l3 : Int32) (t0 : Int32) (σ : z_Mem) : Option (Int32 × z_Mem) :=
  if t0 = (5 : Int32) then (fX6_tells_j126 l1 l2 l3 t0 (σ.1 0 4) σ) else (z_bd (fX6_told l2 t0 σ) (fun r4 s4 => fX6_tells_j126 l1 l2 l3 t0 r4 s4))
theorem kX6_tells_j104 (D : Nat)   (hD : 74 ≤ D) (l1 : Int32) (l2 : Int32) (l3 : Int32) (t0 : Int32)  (σ : z_Mem) : z_Go YM mX6_tells (D + 1) z_i 104 [some (zR 0), some (zI l1), some (zI l2), some (zI l3), none, none, none, none, none, none, none] [zI t0] σ (fX6_tells_j104 l1 l2 l3 t0 σ) := by
  rw [fX6_tells_j104]
  refine z_istore (pc := 104) dX6_tells_104 (Nat.le_of_ble_eq_true rfl) (z_so11_4 rfl) ?_
  refine z_iload (pc := 106) dX6_tells_106 rfl ?_
  refine z_iconst_5 (pc := 108) dX6_tells_108 ?_
  refine z_icmp_ne (tgt := 119) (pc := 109) dX6_tells_109 (by decide) (fun _ => ?_) (fun _ => ?_)
  · refine z_aload_n (pc := 119) dX6_tells_119 rfl rfl ?_
    refine z_iload_n (pc := 120) dX6_tells_120 rfl rfl ?_
    refine z_iload (pc := 121) dX6_tells_121 rfl ?_
    refine z_V2i (pc := 123) dX6_tells_123 lVX6_94 ym_0 rfl (Nat.le_of_ble_eq_true rfl) (kX6_told l2 t0 σ D (by omega)) (fun r4 s4 => ?_)
    exact kX6_tells_j126 D  hD l1 l2 l3 t0 r4 s4
  · refine z_aload_n (pc := 112) dX6_tells_112 rfl rfl ?_
    refine gfX6_4 (pc := 113) dX6_tells_113 ym_0 w_14_6 rfl ?_
    refine z_goto (tgt := 126) (pc := 116) dX6_tells_116 (by decide) ?_
    exact kX6_tells_j126 D  hD l1 l2 l3 t0 (σ.1 0 4) σ
def fX6_tells  (a1 : Int32) (a2 : Int32) (a3 : Int32) (σ : z_Mem) : Option (Int32 × z_Mem) :=
  z_bd (fX6_isSheet a1 σ) (fun r1 s1 => if r1 = 0 then (some ((-2 : Int32), s1)) else (z_bd (fX6_isOne a2 s1) (fun r2 s2 => if r2 = 0 then (some ((-2 : Int32), s2)) else (z_bd (fX6_in a3.toInt64 (0 : Int64) (7 : Int64) s2) (fun r3 s3 => if r3 = 0 then (some ((-2 : Int32), s3)) else (z_gd (z_in a1 4) (if s3.1 11 (z_x a1) = 0 then (some ((-11 : Int32), s3)) else (z_gd (z_in a1 4) (if s3.1 13 (z_x a1) ≤ (6 : Int32) then (if a3 = 0 then (z_bd (fX6_firstOther a1 s3) (fun r8 s8 => some (r8, s8))) else (if a3 = (1 : Int32) then (fX6_tells_j104 a1 a2 a3 (4 : Int32) s3) else (if a3 = (2 : Int32) then (fX6_tells_j104 a1 a2 a3 (2 : Int32) s3) else (if (5 : Int32) ≤ a3 then (if (7 : Int32) ≤ a3 then (fX6_tells_j104 a1 a2 a3 (5 : Int32) s3) else (fX6_tells_j104 a1 a2 a3 (1 : Int32) s3)) else (fX6_tells_j104 a1 a2 a3 (3 : Int32) s3))))) else (some ((-2 : Int32), s3)))))))))))
theorem kX6_tells   (a1 : Int32) (a2 : Int32) (a3 : Int32) (σ : z_Mem) (D : Nat) (hD : 75 ≤ D) : z_Call YM mX6_tells D z_i [zR 0, zI a1, zI a2, zI a3] σ (fX6_tells a1 a2 a3 σ) := by
  obtain ⟨D, rfl⟩ : ∃ E, D = E + 1 := ⟨D - 1, by omega⟩
  replace hD : 74 ≤ D := by omega
  refine z_entry (lv := [some (zR 0), some (zI a1), some (zI a2), some (zI a3), none, none, none, none, none, none, none]) (by decide) rfl (Nat.le_of_ble_eq_true rfl) rfl ?_
  rw [fX6_tells]
  refine z_iload_n (pc := 0) dX6_tells_0 rfl rfl ?_
  refine z_S1i (pc := 1) dX6_tells_1 lSX6_318 (Nat.le_of_ble_eq_true rfl) (kX6_isSheet a1 σ D (by omega)) (fun r1 s1 => ?_)
  refine z_if_eq (tgt := 27) (pc := 4) dX6_tells_4 (by decide) (fun _ => ?_) (fun _ => ?_)
  · refine z_bipush_m2 (pc := 27) dX6_tells_27 ?_
    exact z_iret (pc := 29) dX6_tells_29 rfl rfl
  · refine z_aload_n (pc := 7) dX6_tells_7 rfl rfl ?_
    refine z_iload_n (pc := 8) dX6_tells_8 rfl rfl ?_
    refine z_V1i (pc := 9) dX6_tells_9 lVX6_74 ym_0 rfl (Nat.le_of_ble_eq_true rfl) (kX6_isOne a2 s1 D (by omega)) (fun r2 s2 => ?_)
    refine z_if_eq (tgt := 27) (pc := 12) dX6_tells_12 (by decide) (fun _ => ?_) (fun _ => ?_)
    · refine z_bipush_m2 (pc := 27) dX6_tells_27 ?_
      exact z_iret (pc := 29) dX6_tells_29 rfl rfl
    · refine z_iload_n (pc := 15) dX6_tells_15 rfl rfl ?_
      refine z_i2l (pc := 16) dX6_tells_16 ?_
      refine z_lconst (v := 0) (pc := 17) dX6_tells_17 rfl ?_
      refine z_ldc2 (v := 7) (pc := 18) dX6_tells_18 w_35_14 ?_
      refine z_S3i (pc := 21) dX6_tells_21 lSX6_70 (Nat.le_of_ble_eq_true rfl) (kX6_in a3.toInt64 (0 : Int64) (7 : Int64) s2 D (by omega)) (fun r3 s3 => ?_)
      refine z_if_ne (tgt := 30) (pc := 24) dX6_tells_24 (by decide) (fun _ => ?_) (fun _ => ?_)
      · refine z_aload_n (pc := 30) dX6_tells_30 rfl rfl ?_
        refine gfX6_40 (pc := 31) dX6_tells_31 ym_0 w_10_19 rfl ?_
        refine z_iload_n (pc := 34) dX6_tells_34 rfl rfl ?_
        refine z_zald (pc := 35) dX6_tells_35 ym_11 ?_
        refine z_if_ne (tgt := 42) (pc := 36) dX6_tells_36 (by decide) (fun _ => ?_) (fun _ => ?_)
        · refine z_aload_n (pc := 42) dX6_tells_42 rfl rfl ?_
          refine gfX6_42 (pc := 43) dX6_tells_43 ym_0 w_10_21 rfl ?_
          refine z_iload_n (pc := 46) dX6_tells_46 rfl rfl ?_
          refine z_iald (pc := 47) dX6_tells_47 ym_13 ?_
          refine z_bipush_6 (pc := 48) dX6_tells_48 ?_
          refine z_icmp_le (tgt := 56) (pc := 50) dX6_tells_50 (by decide) (fun _ => ?_) (fun _ => ?_)
          · refine z_iload_n (pc := 56) dX6_tells_56 rfl rfl ?_
            refine z_if_ne (tgt := 66) (pc := 57) dX6_tells_57 (by decide) (fun _ => ?_) (fun _ => ?_)
            · refine z_iload_n (pc := 66) dX6_tells_66 rfl rfl ?_
              refine z_iconst_1 (pc := 67) dX6_tells_67 ?_
              refine z_icmp_ne (tgt := 75) (pc := 68) dX6_tells_68 (by decide) (fun _ => ?_) (fun _ => ?_)
              · refine z_iload_n (pc := 75) dX6_tells_75 rfl rfl ?_
                refine z_iconst_2 (pc := 76) dX6_tells_76 ?_
                refine z_icmp_ne (tgt := 84) (pc := 77) dX6_tells_77 (by decide) (fun _ => ?_) (fun _ => ?_)
                · refine z_iload_n (pc := 84) dX6_tells_84 rfl rfl ?_
                  refine z_iconst_5 (pc := 85) dX6_tells_85 ?_
                  refine z_icmp_ge (tgt := 93) (pc := 86) dX6_tells_86 (by decide) (fun _ => ?_) (fun _ => ?_)
                  · refine z_iload_n (pc := 93) dX6_tells_93 rfl rfl ?_
                    refine z_bipush_7 (pc := 94) dX6_tells_94 ?_
                    refine z_icmp_ge (tgt := 103) (pc := 96) dX6_tells_96 (by decide) (fun _ => ?_) (fun _ => ?_)
                    · refine z_iconst_5 (pc := 103) dX6_tells_103 ?_
                      exact kX6_tells_j104 D  hD a1 a2 a3 (5 : Int32) s3
                    · refine z_iconst_1 (pc := 99) dX6_tells_99 ?_
                      refine z_goto (tgt := 104) (pc := 100) dX6_tells_100 (by decide) ?_
                      exact kX6_tells_j104 D  hD a1 a2 a3 (1 : Int32) s3
                  · refine z_iconst_3 (pc := 89) dX6_tells_89 ?_
                    refine z_goto (tgt := 104) (pc := 90) dX6_tells_90 (by decide) ?_
                    exact kX6_tells_j104 D  hD a1 a2 a3 (3 : Int32) s3
                · refine z_iconst_2 (pc := 80) dX6_tells_80 ?_
                  refine z_goto (tgt := 104) (pc := 81) dX6_tells_81 (by decide) ?_
                  exact kX6_tells_j104 D  hD a1 a2 a3 (2 : Int32) s3
              · refine z_iconst_4 (pc := 71) dX6_tells_71 ?_
                refine z_goto (tgt := 104) (pc := 72) dX6_tells_72 (by decide) ?_
                exact kX6_tells_j104 D  hD a1 a2 a3 (4 : Int32) s3
            · refine z_aload_n (pc := 60) dX6_tells_60 rfl rfl ?_
              refine z_iload_n (pc := 61) dX6_tells_61 rfl rfl ?_
              refine z_V1i (pc := 62) dX6_tells_62 lVX6_323 ym_0 rfl (Nat.le_of_ble_eq_true rfl) (kX6_firstOther a1 s3 D (by omega)) (fun r8 s8 => ?_)
              exact z_iret (pc := 65) dX6_tells_65 rfl rfl
          · refine z_bipush_m2 (pc := 53) dX6_tells_53 ?_
            exact z_iret (pc := 55) dX6_tells_55 rfl rfl
        · refine z_bipush_m11 (pc := 39) dX6_tells_39 ?_
          exact z_iret (pc := 41) dX6_tells_41 rfl rfl
      · refine z_bipush_m2 (pc := 27) dX6_tells_27 ?_
        exact z_iret (pc := 29) dX6_tells_29 rfl rfl
def fX6_sheet_77  : Nat → Int32 → Int32 → Int32 → Int32 → z_Mem → Option (Int32 × z_Mem)
  | 0, _, _, _, _, _ => none
  | q + 1, l1, l2, l3, l4, σ => if l3 ≤ l4 then (some ((1 : Int32), σ)) else (if l2 < 0 then (some ((1 : Int32), σ)) else (z_gd (z_in (((40 : Int32) * l1) + l4) 160) (z_st (z_pt σ 14 (z_x (((40 : Int32) * l1) + l4)) (0 : Int32)) (fun s6 => fX6_sheet_77  q l1 l2 l3 (l4 + 1) s6))))
theorem kX6_sheet_77 (D : Nat)   (hD : 2 ≤ D) : ∀ (q : Nat) (l1 : Int32) (l2 : Int32) (l3 : Int32) (l4 : Int32)  (σ : z_Mem), z_Go YM mX6_sheet (D + 1) z_i 77 [some (zR 0), some (zI l1), some (zI l2), some (zI l3), some (zI l4)] [] σ (fX6_sheet_77 q l1 l2 l3 l4 σ) := by
  intro q
  induction q with
  | zero => intros; exact z_none
  | succ q ih =>
    intro l1 l2 l3 l4 σ
    rw [fX6_sheet_77]
    refine z_iload (pc := 77) dX6_sheet_77 rfl ?_
    refine z_iload_n (pc := 79) dX6_sheet_79 rfl rfl ?_
    refine z_icmp_ge (tgt := 106) (pc := 80) dX6_sheet_80 (by decide) (fun _ => ?_) (fun _ => ?_)
    · refine z_iconst_1 (pc := 106) dX6_sheet_106 ?_
      exact z_iret (pc := 107) dX6_sheet_107 rfl rfl
    · refine z_iload_n (pc := 83) dX6_sheet_83 rfl rfl ?_
      refine z_if_lt (tgt := 106) (pc := 84) dX6_sheet_84 (by decide) (fun _ => ?_) (fun _ => ?_)
      · refine z_iconst_1 (pc := 106) dX6_sheet_106 ?_
        exact z_iret (pc := 107) dX6_sheet_107 rfl rfl
      · refine z_aload_n (pc := 87) dX6_sheet_87 rfl rfl ?_
        refine gfX6_43 (pc := 88) dX6_sheet_88 ym_0 w_10_22 rfl ?_
        refine z_bipush_40 (pc := 91) dX6_sheet_91 ?_
        refine z_iload_n (pc := 93) dX6_sheet_93 rfl rfl ?_
        refine z_imul (pc := 94) dX6_sheet_94 ?_
        refine z_iload (pc := 95) dX6_sheet_95 rfl ?_
        refine z_iadd (pc := 97) dX6_sheet_97 ?_
        refine z_iconst_0 (pc := 98) dX6_sheet_98 ?_
        refine z_iast (pc := 99) dX6_sheet_99 ym_14 ?_
        refine z_let (fun s6 => ?_)
        refine z_iinc (y := 1) (pc := 100) dX6_sheet_100 rfl (by decide) (Nat.le_of_ble_eq_true rfl) (z_so5_4 rfl) ?_
        refine z_goto (tgt := 77) (pc := 103) dX6_sheet_103 (by decide) ?_
        exact ih l1 l2 l3 (l4 + 1) s6
def fX6_sheet_j34  (l1 : Int32) (l2 : Int32) (l3 : Int32) (σ : z_Mem) : Option (Int32 × z_Mem) :=
  if l2 < 0 then (if l2 < 0 then (z_gd (z_in l1 4) (z_st (z_pt σ 11 (z_x l1) (0 : Int32)) (fun s3 => z_gd (z_in l1 4) (z_st (z_pt s3 12 (z_x l1) l2) (fun s4 => z_gd (z_in l1 4) (z_st (z_pt s4 13 (z_x l1) l3) (fun s5 => fX6_sheet_77 z_FU l1 l2 l3 (0 : Int32) s5))))))) else (z_gd (z_in l1 4) (z_st (z_pt σ 11 (z_x l1) (1 : Int32)) (fun s7 => z_gd (z_in l1 4) (z_st (z_pt s7 12 (z_x l1) l2) (fun s8 => z_gd (z_in l1 4) (z_st (z_pt s8 13 (z_x l1) l3) (fun s9 => fX6_sheet_77 z_FU l1 l2 l3 (0 : Int32) s9)))))))) else (if 0 ≤ l3 then (if l2 < 0 then (z_gd (z_in l1 4) (z_st (z_pt σ 11 (z_x l1) (0 : Int32)) (fun s10 => z_gd (z_in l1 4) (z_st (z_pt s10 12 (z_x l1) l2) (fun s11 => z_gd (z_in l1 4) (z_st (z_pt s11 13 (z_x l1) l3) (fun s12 => fX6_sheet_77 z_FU l1 l2 l3 (0 : Int32) s12))))))) else (z_gd (z_in l1 4) (z_st (z_pt σ 11 (z_x l1) (1 : Int32)) (fun s13 => z_gd (z_in l1 4) (z_st (z_pt s13 12 (z_x l1) l2) (fun s14 => z_gd (z_in l1 4) (z_st (z_pt s14 13 (z_x l1) l3) (fun s15 => fX6_sheet_77 z_FU l1 l2 l3 (0 : Int32) s15)))))))) else (some ((-14 : Int32), σ)))
theorem kX6_sheet_j34 (D : Nat)   (hD : 2 ≤ D) (l1 : Int32) (l2 : Int32) (l3 : Int32)  (σ : z_Mem) : z_Go YM mX6_sheet (D + 1) z_i 34 [some (zR 0), some (zI l1), some (zI l2), some (zI l3), none] [] σ (fX6_sheet_j34 l1 l2 l3 σ) := by
  rw [fX6_sheet_j34]
  refine z_iload_n (pc := 34) dX6_sheet_34 rfl rfl ?_
  refine z_if_lt (tgt := 45) (pc := 35) dX6_sheet_35 (by decide) (fun _ => ?_) (fun _ => ?_)
  · refine z_aload_n (pc := 45) dX6_sheet_45 rfl rfl ?_
    refine gfX6_40 (pc := 46) dX6_sheet_46 ym_0 w_10_19 rfl ?_
    refine z_iload_n (pc := 49) dX6_sheet_49 rfl rfl ?_
    refine z_iload_n (pc := 50) dX6_sheet_50 rfl rfl ?_
    refine z_if_lt (tgt := 58) (pc := 51) dX6_sheet_51 (by decide) (fun _ => ?_) (fun _ => ?_)
    · refine z_iconst_0 (pc := 58) dX6_sheet_58 ?_
      refine z_zast (pc := 59) dX6_sheet_59 ym_11 (by decide) ?_
      refine z_let (fun s3 => ?_)
      refine z_aload_n (pc := 60) dX6_sheet_60 rfl rfl ?_
      refine gfX6_41 (pc := 61) dX6_sheet_61 ym_0 w_10_20 rfl ?_
      refine z_iload_n (pc := 64) dX6_sheet_64 rfl rfl ?_
      refine z_iload_n (pc := 65) dX6_sheet_65 rfl rfl ?_
      refine z_iast (pc := 66) dX6_sheet_66 ym_12 ?_
      refine z_let (fun s4 => ?_)
      refine z_aload_n (pc := 67) dX6_sheet_67 rfl rfl ?_
      refine gfX6_42 (pc := 68) dX6_sheet_68 ym_0 w_10_21 rfl ?_
      refine z_iload_n (pc := 71) dX6_sheet_71 rfl rfl ?_
      refine z_iload_n (pc := 72) dX6_sheet_72 rfl rfl ?_
      refine z_iast (pc := 73) dX6_sheet_73 ym_13 ?_
      refine z_let (fun s5 => ?_)
      refine z_iconst_0 (pc := 74) dX6_sheet_74 ?_
      refine z_istore (pc := 75) dX6_sheet_75 (Nat.le_of_ble_eq_true rfl) (z_so5_4 rfl) ?_
      exact kX6_sheet_77 D  hD z_FU l1 l2 l3 (0 : Int32) s5
    · refine z_iconst_1 (pc := 54) dX6_sheet_54 ?_
      refine z_goto (tgt := 59) (pc := 55) dX6_sheet_55 (by decide) ?_
      refine z_zast (pc := 59) dX6_sheet_59 ym_11 (by decide) ?_
      refine z_let (fun s7 => ?_)
      refine z_aload_n (pc := 60) dX6_sheet_60 rfl rfl ?_
      refine gfX6_41 (pc := 61) dX6_sheet_61 ym_0 w_10_20 rfl ?_
      refine z_iload_n (pc := 64) dX6_sheet_64 rfl rfl ?_
      refine z_iload_n (pc := 65) dX6_sheet_65 rfl rfl ?_
      refine z_iast (pc := 66) dX6_sheet_66 ym_12 ?_
      refine z_let (fun s8 => ?_)
      refine z_aload_n (pc := 67) dX6_sheet_67 rfl rfl ?_
      refine gfX6_42 (pc := 68) dX6_sheet_68 ym_0 w_10_21 rfl ?_
      refine z_iload_n (pc := 71) dX6_sheet_71 rfl rfl ?_
      refine z_iload_n (pc := 72) dX6_sheet_72 rfl rfl ?_
      refine z_iast (pc := 73) dX6_sheet_73 ym_13 ?_
      refine z_let (fun s9 => ?_)
      refine z_iconst_0 (pc := 74) dX6_sheet_74 ?_
      refine z_istore (pc := 75) dX6_sheet_75 (Nat.le_of_ble_eq_true rfl) (z_so5_4 rfl) ?_
      exact kX6_sheet_77 D  hD z_FU l1 l2 l3 (0 : Int32) s9
  · refine z_iload_n (pc := 38) dX6_sheet_38 rfl rfl ?_
    refine z_if_ge (tgt := 45) (pc := 39) dX6_sheet_39 (by decide) (fun _ => ?_) (fun _ => ?_)
    · refine z_aload_n (pc := 45) dX6_sheet_45 rfl rfl ?_
      refine gfX6_40 (pc := 46) dX6_sheet_46 ym_0 w_10_19 rfl ?_
      refine z_iload_n (pc := 49) dX6_sheet_49 rfl rfl ?_
      refine z_iload_n (pc := 50) dX6_sheet_50 rfl rfl ?_
      refine z_if_lt (tgt := 58) (pc := 51) dX6_sheet_51 (by decide) (fun _ => ?_) (fun _ => ?_)
      · refine z_iconst_0 (pc := 58) dX6_sheet_58 ?_
        refine z_zast (pc := 59) dX6_sheet_59 ym_11 (by decide) ?_
        refine z_let (fun s10 => ?_)
        refine z_aload_n (pc := 60) dX6_sheet_60 rfl rfl ?_
        refine gfX6_41 (pc := 61) dX6_sheet_61 ym_0 w_10_20 rfl ?_
        refine z_iload_n (pc := 64) dX6_sheet_64 rfl rfl ?_
        refine z_iload_n (pc := 65) dX6_sheet_65 rfl rfl ?_
        refine z_iast (pc := 66) dX6_sheet_66 ym_12 ?_
        refine z_let (fun s11 => ?_)
        refine z_aload_n (pc := 67) dX6_sheet_67 rfl rfl ?_
        refine gfX6_42 (pc := 68) dX6_sheet_68 ym_0 w_10_21 rfl ?_
        refine z_iload_n (pc := 71) dX6_sheet_71 rfl rfl ?_
        refine z_iload_n (pc := 72) dX6_sheet_72 rfl rfl ?_
        refine z_iast (pc := 73) dX6_sheet_73 ym_13 ?_
        refine z_let (fun s12 => ?_)
        refine z_iconst_0 (pc := 74) dX6_sheet_74 ?_
        refine z_istore (pc := 75) dX6_sheet_75 (Nat.le_of_ble_eq_true rfl) (z_so5_4 rfl) ?_
        exact kX6_sheet_77 D  hD z_FU l1 l2 l3 (0 : Int32) s12
      · refine z_iconst_1 (pc := 54) dX6_sheet_54 ?_
        refine z_goto (tgt := 59) (pc := 55) dX6_sheet_55 (by decide) ?_
        refine z_zast (pc := 59) dX6_sheet_59 ym_11 (by decide) ?_
        refine z_let (fun s13 => ?_)
        refine z_aload_n (pc := 60) dX6_sheet_60 rfl rfl ?_
        refine gfX6_41 (pc := 61) dX6_sheet_61 ym_0 w_10_20 rfl ?_
        refine z_iload_n (pc := 64) dX6_sheet_64 rfl rfl ?_
        refine z_iload_n (pc := 65) dX6_sheet_65 rfl rfl ?_
        refine z_iast (pc := 66) dX6_sheet_66 ym_12 ?_
        refine z_let (fun s14 => ?_)
        refine z_aload_n (pc := 67) dX6_sheet_67 rfl rfl ?_
        refine gfX6_42 (pc := 68) dX6_sheet_68 ym_0 w_10_21 rfl ?_
        refine z_iload_n (pc := 71) dX6_sheet_71 rfl rfl ?_
        refine z_iload_n (pc := 72) dX6_sheet_72 rfl rfl ?_
        refine z_iast (pc := 73) dX6_sheet_73 ym_13 ?_
        refine z_let (fun s15 => ?_)
        refine z_iconst_0 (pc := 74) dX6_sheet_74 ?_
        refine z_istore (pc := 75) dX6_sheet_75 (Nat.le_of_ble_eq_true rfl) (z_so5_4 rfl) ?_
        exact kX6_sheet_77 D  hD z_FU l1 l2 l3 (0 : Int32) s15
    · refine z_bipush_m14 (pc := 42) dX6_sheet_42 ?_
      exact z_iret (pc := 44) dX6_sheet_44 rfl rfl
def fX6_sheet  (a1 : Int32) (a2 : Int32) (a3 : Int32) (σ : z_Mem) : Option (Int32 × z_Mem) :=
  z_bd (fX6_isSheet a1 σ) (fun r1 s1 => if r1 = 0 then (some ((-2 : Int32), s1)) else (z_bd (fX6_in a2.toInt64 (-1 : Int64) (2 : Int64) s1) (fun r2 s2 => if r2 = 0 then (some ((-2 : Int32), s2)) else (if a2 < 0 then (fX6_sheet_j34 a1 a2 a3 s2) else (if a3 ≤ (40 : Int32) then (fX6_sheet_j34 a1 a2 a3 s2) else (some ((-2 : Int32), s2)))))))
theorem kX6_sheet   (a1 : Int32) (a2 : Int32) (a3 : Int32) (σ : z_Mem) (D : Nat) (hD : 3 ≤ D) : z_Call YM mX6_sheet D z_i [zR 0, zI a1, zI a2, zI a3] σ (fX6_sheet a1 a2 a3 σ) := by
  obtain ⟨D, rfl⟩ : ∃ E, D = E + 1 := ⟨D - 1, by omega⟩
  replace hD : 2 ≤ D := by omega
  refine z_entry (lv := [some (zR 0), some (zI a1), some (zI a2), some (zI a3), none]) (by decide) rfl (Nat.le_of_ble_eq_true rfl) rfl ?_
  rw [fX6_sheet]
  refine z_iload_n (pc := 0) dX6_sheet_0 rfl rfl ?_
  refine z_S1i (pc := 1) dX6_sheet_1 lSX6_318 (Nat.le_of_ble_eq_true rfl) (kX6_isSheet a1 σ D (by omega)) (fun r1 s1 => ?_)
  refine z_if_eq (tgt := 31) (pc := 4) dX6_sheet_4 (by decide) (fun _ => ?_) (fun _ => ?_)
  · refine z_bipush_m2 (pc := 31) dX6_sheet_31 ?_
    exact z_iret (pc := 33) dX6_sheet_33 rfl rfl
  · refine z_iload_n (pc := 7) dX6_sheet_7 rfl rfl ?_
    refine z_i2l (pc := 8) dX6_sheet_8 ?_
    refine z_ldc2 (v := -1) (pc := 9) dX6_sheet_9 w_36_23 ?_
    refine z_ldc2 (v := 2) (pc := 12) dX6_sheet_12 w_28_14 ?_
    refine z_S3i (pc := 15) dX6_sheet_15 lSX6_70 (Nat.le_of_ble_eq_true rfl) (kX6_in a2.toInt64 (-1 : Int64) (2 : Int64) s1 D (by omega)) (fun r2 s2 => ?_)
    refine z_if_eq (tgt := 31) (pc := 18) dX6_sheet_18 (by decide) (fun _ => ?_) (fun _ => ?_)
    · refine z_bipush_m2 (pc := 31) dX6_sheet_31 ?_
      exact z_iret (pc := 33) dX6_sheet_33 rfl rfl
    · refine z_iload_n (pc := 21) dX6_sheet_21 rfl rfl ?_
      refine z_if_lt (tgt := 34) (pc := 22) dX6_sheet_22 (by decide) (fun _ => ?_) (fun _ => ?_)
      · exact kX6_sheet_j34 D  hD a1 a2 a3 s2
      · refine z_iload_n (pc := 25) dX6_sheet_25 rfl rfl ?_
        refine z_bipush_40 (pc := 26) dX6_sheet_26 ?_
        refine z_icmp_le (tgt := 34) (pc := 28) dX6_sheet_28 (by decide) (fun _ => ?_) (fun _ => ?_)
        · exact kX6_sheet_j34 D  hD a1 a2 a3 s2
        · refine z_bipush_m2 (pc := 31) dX6_sheet_31 ?_
          exact z_iret (pc := 33) dX6_sheet_33 rfl rfl
def fX6_film_37  : Nat → Int32 → Int32 → Int32 → z_Mem → Option (Int32 × z_Mem)
  | 0, _, _, _, _ => none
  | q + 1, l1, l2, l3, σ => if l2 ≤ l3 then (some (l2, σ)) else (z_bd (fX6_hold l3 σ) (fun r3 s3 => z_gd (z_in (((40 : Int32) * l1) + l3) 160) (z_st (z_pt s3 14 (z_x (((40 : Int32) * l1) + l3)) r3) (fun s4 => fX6_film_37  q l1 l2 (l3 + 1) s4))))
theorem kX6_film_37 (D : Nat)   (hD : 73 ≤ D) : ∀ (q : Nat) (l1 : Int32) (l2 : Int32) (l3 : Int32)  (σ : z_Mem), z_Go YM mX6_film (D + 1) z_i 37 [some (zR 0), some (zI l1), some (zI l2), some (zI l3)] [] σ (fX6_film_37 q l1 l2 l3 σ) := by
  intro q
  induction q with
  | zero => intros; exact z_none
  | succ q ih =>
    intro l1 l2 l3 σ
    rw [fX6_film_37]
    refine z_iload_n (pc := 37) dX6_film_37 rfl rfl ?_
    refine z_iload_n (pc := 38) dX6_film_38 rfl rfl ?_
    refine z_icmp_ge (tgt := 64) (pc := 39) dX6_film_39 (by decide) (fun _ => ?_) (fun _ => ?_)
    · refine z_iload_n (pc := 64) dX6_film_64 rfl rfl ?_
      exact z_iret (pc := 65) dX6_film_65 rfl rfl
    · refine z_aload_n (pc := 42) dX6_film_42 rfl rfl ?_
      refine gfX6_43 (pc := 43) dX6_film_43 ym_0 w_10_22 rfl ?_
      refine z_bipush_40 (pc := 46) dX6_film_46 ?_
      refine z_iload_n (pc := 48) dX6_film_48 rfl rfl ?_
      refine z_imul (pc := 49) dX6_film_49 ?_
      refine z_iload_n (pc := 50) dX6_film_50 rfl rfl ?_
      refine z_iadd (pc := 51) dX6_film_51 ?_
      refine z_aload_n (pc := 52) dX6_film_52 rfl rfl ?_
      refine z_iload_n (pc := 53) dX6_film_53 rfl rfl ?_
      refine z_V1i (pc := 54) dX6_film_54 lVX6_125 ym_0 rfl (Nat.le_of_ble_eq_true rfl) (kX6_hold l3 σ D (by omega)) (fun r3 s3 => ?_)
      refine z_iast (pc := 57) dX6_film_57 ym_14 ?_
      refine z_let (fun s4 => ?_)
      refine z_iinc (y := 1) (pc := 58) dX6_film_58 rfl (by decide) (Nat.le_of_ble_eq_true rfl) (z_so4_3 rfl) ?_
      refine z_goto (tgt := 37) (pc := 61) dX6_film_61 (by decide) ?_
      exact ih l1 l2 (l3 + 1) s4
def fX6_film  (a1 : Int32) (σ : z_Mem) : Option (Int32 × z_Mem) :=
  z_bd (fX6_isSheet a1 σ) (fun r1 s1 => if r1 = 0 then (some ((-2 : Int32), s1)) else (if s1.1 0 12 ≤ (1 : Int32) then (z_bd (fX6_sheet a1 (0 : Int32) (0 : Int32) s1) (fun r2 s2 => fX6_film_37 z_FU a1 (0 : Int32) (0 : Int32) s2)) else (z_bd (fX6_sheet a1 (0 : Int32) (s1.1 0 12) s1) (fun r5 s5 => fX6_film_37 z_FU a1 (s1.1 0 12) (0 : Int32) s5))))
theorem kX6_film   (a1 : Int32) (σ : z_Mem) (D : Nat) (hD : 74 ≤ D) : z_Call YM mX6_film D z_i [zR 0, zI a1] σ (fX6_film a1 σ) := by
  obtain ⟨D, rfl⟩ : ∃ E, D = E + 1 := ⟨D - 1, by omega⟩
  replace hD : 73 ≤ D := by omega
  refine z_entry (lv := [some (zR 0), some (zI a1), none, none]) (by decide) rfl (Nat.le_of_ble_eq_true rfl) rfl ?_
  rw [fX6_film]
  refine z_iload_n (pc := 0) dX6_film_0 rfl rfl ?_
  refine z_S1i (pc := 1) dX6_film_1 lSX6_318 (Nat.le_of_ble_eq_true rfl) (kX6_isSheet a1 σ D (by omega)) (fun r1 s1 => ?_)
  refine z_if_ne (tgt := 10) (pc := 4) dX6_film_4 (by decide) (fun _ => ?_) (fun _ => ?_)
  · refine z_aload_n (pc := 10) dX6_film_10 rfl rfl ?_
    refine gfX6_12 (pc := 11) dX6_film_11 ym_0 w_12_16 rfl ?_
    refine z_iconst_1 (pc := 14) dX6_film_14 ?_
    refine z_icmp_le (tgt := 25) (pc := 15) dX6_film_15 (by decide) (fun _ => ?_) (fun _ => ?_)
    · refine z_iconst_0 (pc := 25) dX6_film_25 ?_
      refine z_istore_n (pc := 26) dX6_film_26 rfl (Nat.le_of_ble_eq_true rfl) (z_so4_2 rfl) ?_
      refine z_aload_n (pc := 27) dX6_film_27 rfl rfl ?_
      refine z_iload_n (pc := 28) dX6_film_28 rfl rfl ?_
      refine z_iconst_0 (pc := 29) dX6_film_29 ?_
      refine z_iload_n (pc := 30) dX6_film_30 rfl rfl ?_
      refine z_V3i (pc := 31) dX6_film_31 lVX6_326 ym_0 rfl (Nat.le_of_ble_eq_true rfl) (kX6_sheet a1 (0 : Int32) (0 : Int32) s1 D (by omega)) (fun r2 s2 => ?_)
      refine z_pop (pc := 34) dX6_film_34 rfl ?_
      refine z_iconst_0 (pc := 35) dX6_film_35 ?_
      refine z_istore_n (pc := 36) dX6_film_36 rfl (Nat.le_of_ble_eq_true rfl) (z_so4_3 rfl) ?_
      exact kX6_film_37 D  hD z_FU a1 (0 : Int32) (0 : Int32) s2
    · refine z_aload_n (pc := 18) dX6_film_18 rfl rfl ?_
      refine gfX6_12 (pc := 19) dX6_film_19 ym_0 w_12_16 rfl ?_
      refine z_goto (tgt := 26) (pc := 22) dX6_film_22 (by decide) ?_
      refine z_istore_n (pc := 26) dX6_film_26 rfl (Nat.le_of_ble_eq_true rfl) (z_so4_2 rfl) ?_
      refine z_aload_n (pc := 27) dX6_film_27 rfl rfl ?_
      refine z_iload_n (pc := 28) dX6_film_28 rfl rfl ?_
      refine z_iconst_0 (pc := 29) dX6_film_29 ?_
      refine z_iload_n (pc := 30) dX6_film_30 rfl rfl ?_
      refine z_V3i (pc := 31) dX6_film_31 lVX6_326 ym_0 rfl (Nat.le_of_ble_eq_true rfl) (kX6_sheet a1 (0 : Int32) (s1.1 0 12) s1 D (by omega)) (fun r5 s5 => ?_)
      refine z_pop (pc := 34) dX6_film_34 rfl ?_
      refine z_iconst_0 (pc := 35) dX6_film_35 ?_
      refine z_istore_n (pc := 36) dX6_film_36 rfl (Nat.le_of_ble_eq_true rfl) (z_so4_3 rfl) ?_
      exact kX6_film_37 D  hD z_FU a1 (s1.1 0 12) (0 : Int32) s5
  · refine z_bipush_m2 (pc := 7) dX6_film_7 ?_
    exact z_iret (pc := 9) dX6_film_9 rfl rfl
def fX6_weakestDrawn_33  (K109 : z_Mem → Option (Int32 × z_Mem)) : Nat → Int32 → Int32 → Int32 → z_Mem → Option (Int32 × z_Mem)
  | 0, _, _, _, _ => none
  | q + 1, l2, l3, l4, σ => if l2 ≤ l4 then (K109  σ) else (z_bd (fX6_isPlace (((((l3 * (1103515245 : Int32)) + (12345 : Int32)).toUInt32 >>> ((9 : Int32).toUInt32 &&& Int32.toUInt32 31)).toInt32) - ((((l3 * (1103515245 : Int32)) + (12345 : Int32)).toUInt32 >>> ((9 : Int32).toUInt32 &&& Int32.toUInt32 31)).toInt32) / (8 : Int32) * (8 : Int32)) σ) (fun r1 s1 => if r1 = 0 then (fX6_weakestDrawn_33  K109 q l2 ((((l3 * (1103515245 : Int32)) + (12345 : Int32)) * (1103515245 : Int32)) + (12345 : Int32)) (l4 + 1) s1) else (z_bd (fX6_isPlace (((((((l3 * (1103515245 : Int32)) + (12345 : Int32)) * (1103515245 : Int32)) + (12345 : Int32)).toUInt32 >>> ((9 : Int32).toUInt32 &&& Int32.toUInt32 31)).toInt32) - ((((((l3 * (1103515245 : Int32)) + (12345 : Int32)) * (1103515245 : Int32)) + (12345 : Int32)).toUInt32 >>> ((9 : Int32).toUInt32 &&& Int32.toUInt32 31)).toInt32) / (8 : Int32) * (8 : Int32)) s1) (fun r2 s2 => if r2 = 0 then (fX6_weakestDrawn_33  K109 q l2 ((((l3 * (1103515245 : Int32)) + (12345 : Int32)) * (1103515245 : Int32)) + (12345 : Int32)) (l4 + 1) s2) else (z_bd (fX6_change (((((l3 * (1103515245 : Int32)) + (12345 : Int32)).toUInt32 >>> ((9 : Int32).toUInt32 &&& Int32.toUInt32 31)).toInt32) - ((((l3 * (1103515245 : Int32)) + (12345 : Int32)).toUInt32 >>> ((9 : Int32).toUInt32 &&& Int32.toUInt32 31)).toInt32) / (8 : Int32) * (8 : Int32)) (((((((l3 * (1103515245 : Int32)) + (12345 : Int32)) * (1103515245 : Int32)) + (12345 : Int32)).toUInt32 >>> ((9 : Int32).toUInt32 &&& Int32.toUInt32 31)).toInt32) - ((((((l3 * (1103515245 : Int32)) + (12345 : Int32)) * (1103515245 : Int32)) + (12345 : Int32)).toUInt32 >>> ((9 : Int32).toUInt32 &&& Int32.toUInt32 31)).toInt32) / (8 : Int32) * (8 : Int32)) s2) (fun _ s3 => fX6_weakestDrawn_33  K109 q l2 ((((l3 * (1103515245 : Int32)) + (12345 : Int32)) * (1103515245 : Int32)) + (12345 : Int32)) (l4 + 1) s3))))))
theorem kX6_weakestDrawn_33 (D : Nat)   (hD : 74 ≤ D) (K109 : z_Mem → Option (Int32 × z_Mem)) (hK109 : ∀  (σ : z_Mem), z_Go YM mX6_weakestDrawn (D + 1) z_i 109 [some (zR 0), none, none, none, none, none, none] [] σ (K109  σ)) : ∀ (q : Nat) (l2 : Int32) (l3 : Int32) (l4 : Int32)  (σ : z_Mem), z_Go YM mX6_weakestDrawn (D + 1) z_i 33 [some (zR 0), none, some (zI l2), some (zI l3), some (zI l4), none, none] [] σ (fX6_weakestDrawn_33 K109 q l2 l3 l4 σ) := by
  intro q
  induction q with
  | zero => intros; exact z_none
  | succ q ih =>
    intro l2 l3 l4 σ
    rw [fX6_weakestDrawn_33]
    refine z_iload (pc := 33) dX6_weakestDrawn_33 rfl ?_
    refine z_iload_n (pc := 35) dX6_weakestDrawn_35 rfl rfl ?_
    refine z_icmp_ge (tgt := 109) (pc := 36) dX6_weakestDrawn_36 (by decide) (fun _ => ?_) (fun _ => ?_)
    · exact z_weak (lv' := [some (zR 0), none, none, none, none, none, none]) (z_sub_ok ⟨rfl, trivial⟩) (hK109  σ)
    · refine z_iload_n (pc := 39) dX6_weakestDrawn_39 rfl rfl ?_
      refine z_ldcw (v := 1103515245) (pc := 40) dX6_weakestDrawn_40 w_37_17 ?_
      refine z_imul (pc := 43) dX6_weakestDrawn_43 ?_
      refine z_sipush_12345 (pc := 44) dX6_weakestDrawn_44 ?_
      refine z_iadd (pc := 47) dX6_weakestDrawn_47 ?_
      refine z_istore_n (pc := 48) dX6_weakestDrawn_48 rfl (Nat.le_of_ble_eq_true rfl) (z_so7_3 rfl) ?_
      refine z_iload_n (pc := 49) dX6_weakestDrawn_49 rfl rfl ?_
      refine z_bipush_9 (pc := 50) dX6_weakestDrawn_50 ?_
      refine z_iushr (pc := 52) dX6_weakestDrawn_52 ?_
      refine z_bipush_8 (pc := 53) dX6_weakestDrawn_53 ?_
      refine z_iremK (pc := 55) dX6_weakestDrawn_55 (by decide) ?_
      refine z_istore (pc := 56) dX6_weakestDrawn_56 (Nat.le_of_ble_eq_true rfl) (z_so7_5 rfl) ?_
      refine z_iload_n (pc := 58) dX6_weakestDrawn_58 rfl rfl ?_
      refine z_ldcw (v := 1103515245) (pc := 59) dX6_weakestDrawn_59 w_37_17 ?_
      refine z_imul (pc := 62) dX6_weakestDrawn_62 ?_
      refine z_sipush_12345 (pc := 63) dX6_weakestDrawn_63 ?_
      refine z_iadd (pc := 66) dX6_weakestDrawn_66 ?_
      refine z_istore_n (pc := 67) dX6_weakestDrawn_67 rfl (Nat.le_of_ble_eq_true rfl) (z_so7_3 rfl) ?_
      refine z_iload_n (pc := 68) dX6_weakestDrawn_68 rfl rfl ?_
      refine z_bipush_9 (pc := 69) dX6_weakestDrawn_69 ?_
      refine z_iushr (pc := 71) dX6_weakestDrawn_71 ?_
      refine z_bipush_8 (pc := 72) dX6_weakestDrawn_72 ?_
      refine z_iremK (pc := 74) dX6_weakestDrawn_74 (by decide) ?_
      refine z_istore (pc := 75) dX6_weakestDrawn_75 (Nat.le_of_ble_eq_true rfl) (z_so7_6 rfl) ?_
      refine z_aload_n (pc := 77) dX6_weakestDrawn_77 rfl rfl ?_
      refine z_iload (pc := 78) dX6_weakestDrawn_78 rfl ?_
      refine z_V1i (pc := 80) dX6_weakestDrawn_80 lVX6_81 ym_0 rfl (Nat.le_of_ble_eq_true rfl) (kX6_isPlace (((((l3 * (1103515245 : Int32)) + (12345 : Int32)).toUInt32 >>> ((9 : Int32).toUInt32 &&& Int32.toUInt32 31)).toInt32) - ((((l3 * (1103515245 : Int32)) + (12345 : Int32)).toUInt32 >>> ((9 : Int32).toUInt32 &&& Int32.toUInt32 31)).toInt32) / (8 : Int32) * (8 : Int32)) σ D (by omega)) (fun r1 s1 => ?_)
      refine z_if_eq (tgt := 103) (pc := 83) dX6_weakestDrawn_83 (by decide) (fun _ => ?_) (fun _ => ?_)
      · refine z_iinc (y := 1) (pc := 103) dX6_weakestDrawn_103 rfl (by decide) (Nat.le_of_ble_eq_true rfl) (z_so7_4 rfl) ?_
        refine z_goto (tgt := 33) (pc := 106) dX6_weakestDrawn_106 (by decide) ?_
        exact z_weak (lv' := [some (zR 0), none, some (zI l2), some (zI ((((l3 * (1103515245 : Int32)) + (12345 : Int32)) * (1103515245 : Int32)) + (12345 : Int32))), some (zI (l4 + 1)), none, none]) (z_sub_ok ⟨rfl, rfl, rfl, rfl, trivial⟩) (ih l2 ((((l3 * (1103515245 : Int32)) + (12345 : Int32)) * (1103515245 : Int32)) + (12345 : Int32)) (l4 + 1) s1)
      · refine z_aload_n (pc := 86) dX6_weakestDrawn_86 rfl rfl ?_
        refine z_iload (pc := 87) dX6_weakestDrawn_87 rfl ?_
        refine z_V1i (pc := 89) dX6_weakestDrawn_89 lVX6_81 ym_0 rfl (Nat.le_of_ble_eq_true rfl) (kX6_isPlace (((((((l3 * (1103515245 : Int32)) + (12345 : Int32)) * (1103515245 : Int32)) + (12345 : Int32)).toUInt32 >>> ((9 : Int32).toUInt32 &&& Int32.toUInt32 31)).toInt32) - ((((((l3 * (1103515245 : Int32)) + (12345 : Int32)) * (1103515245 : Int32)) + (12345 : Int32)).toUInt32 >>> ((9 : Int32).toUInt32 &&& Int32.toUInt32 31)).toInt32) / (8 : Int32) * (8 : Int32)) s1 D (by omega)) (fun r2 s2 => ?_)
        refine z_if_eq (tgt := 103) (pc := 92) dX6_weakestDrawn_92 (by decide) (fun _ => ?_) (fun _ => ?_)
        · refine z_iinc (y := 1) (pc := 103) dX6_weakestDrawn_103 rfl (by decide) (Nat.le_of_ble_eq_true rfl) (z_so7_4 rfl) ?_
          refine z_goto (tgt := 33) (pc := 106) dX6_weakestDrawn_106 (by decide) ?_
          exact z_weak (lv' := [some (zR 0), none, some (zI l2), some (zI ((((l3 * (1103515245 : Int32)) + (12345 : Int32)) * (1103515245 : Int32)) + (12345 : Int32))), some (zI (l4 + 1)), none, none]) (z_sub_ok ⟨rfl, rfl, rfl, rfl, trivial⟩) (ih l2 ((((l3 * (1103515245 : Int32)) + (12345 : Int32)) * (1103515245 : Int32)) + (12345 : Int32)) (l4 + 1) s2)
        · refine z_aload_n (pc := 95) dX6_weakestDrawn_95 rfl rfl ?_
          refine z_iload (pc := 96) dX6_weakestDrawn_96 rfl ?_
          refine z_iload (pc := 98) dX6_weakestDrawn_98 rfl ?_
          refine z_V2u (pc := 100) dX6_weakestDrawn_100 lVX6_279 ym_0 rfl (Nat.le_of_ble_eq_true rfl) (kX6_change (((((l3 * (1103515245 : Int32)) + (12345 : Int32)).toUInt32 >>> ((9 : Int32).toUInt32 &&& Int32.toUInt32 31)).toInt32) - ((((l3 * (1103515245 : Int32)) + (12345 : Int32)).toUInt32 >>> ((9 : Int32).toUInt32 &&& Int32.toUInt32 31)).toInt32) / (8 : Int32) * (8 : Int32)) (((((((l3 * (1103515245 : Int32)) + (12345 : Int32)) * (1103515245 : Int32)) + (12345 : Int32)).toUInt32 >>> ((9 : Int32).toUInt32 &&& Int32.toUInt32 31)).toInt32) - ((((((l3 * (1103515245 : Int32)) + (12345 : Int32)) * (1103515245 : Int32)) + (12345 : Int32)).toUInt32 >>> ((9 : Int32).toUInt32 &&& Int32.toUInt32 31)).toInt32) / (8 : Int32) * (8 : Int32)) s2 D (by omega)) (fun _ s3 => ?_)
          refine z_iinc (y := 1) (pc := 103) dX6_weakestDrawn_103 rfl (by decide) (Nat.le_of_ble_eq_true rfl) (z_so7_4 rfl) ?_
          refine z_goto (tgt := 33) (pc := 106) dX6_weakestDrawn_106 (by decide) ?_
          exact z_weak (lv' := [some (zR 0), none, some (zI l2), some (zI ((((l3 * (1103515245 : Int32)) + (12345 : Int32)) * (1103515245 : Int32)) + (12345 : Int32))), some (zI (l4 + 1)), none, none]) (z_sub_ok ⟨rfl, rfl, rfl, rfl, trivial⟩) (ih l2 ((((l3 * (1103515245 : Int32)) + (12345 : Int32)) * (1103515245 : Int32)) + (12345 : Int32)) (l4 + 1) s3)
def fX6_weakestDrawn_118  (K147 : Int32 → z_Mem → Option (Int32 × z_Mem)) : Nat → Int32 → Int32 → z_Mem → Option (Int32 × z_Mem)
  | 0, _, _, _ => none
  | q + 1, l4, l5, σ => if σ.1 0 12 ≤ l5 then (K147 l4 σ) else (z_gd (z_in l5 6) (z_gd (z_in l5 6) (z_st (z_pt σ 5 (z_x l5) (σ.1 8 (z_x l5))) (fun s5 => fX6_weakestDrawn_118  K147 q l4 (l5 + 1) s5))))
theorem kX6_weakestDrawn_118 (D : Nat)   (hD : 74 ≤ D) (K147 : Int32 → z_Mem → Option (Int32 × z_Mem)) (hK147 : ∀ (l4 : Int32) (σ : z_Mem), z_Go YM mX6_weakestDrawn (D + 1) z_i 147 [none, none, none, none, some (zI l4), none, none] [] σ (K147 l4 σ)) : ∀ (q : Nat) (l4 : Int32) (l5 : Int32)  (σ : z_Mem), z_Go YM mX6_weakestDrawn (D + 1) z_i 118 [some (zR 0), none, none, none, some (zI l4), some (zI l5), none] [] σ (fX6_weakestDrawn_118 K147 q l4 l5 σ) := by
  intro q
  induction q with
  | zero => intros; exact z_none
  | succ q ih =>
    intro l4 l5 σ
    rw [fX6_weakestDrawn_118]
    refine z_iload (pc := 118) dX6_weakestDrawn_118 rfl ?_
    refine z_aload_n (pc := 120) dX6_weakestDrawn_120 rfl rfl ?_
    refine gfX6_12 (pc := 121) dX6_weakestDrawn_121 ym_0 w_12_16 rfl ?_
    refine z_icmp_ge (tgt := 147) (pc := 124) dX6_weakestDrawn_124 (by decide) (fun _ => ?_) (fun _ => ?_)
    · exact z_weak (lv' := [none, none, none, none, some (zI l4), none, none]) (z_sub_ok ⟨rfl, trivial⟩) (hK147 l4 σ)
    · refine z_aload_n (pc := 127) dX6_weakestDrawn_127 rfl rfl ?_
      refine gfX6_11 (pc := 128) dX6_weakestDrawn_128 ym_0 w_10_11 rfl ?_
      refine z_iload (pc := 131) dX6_weakestDrawn_131 rfl ?_
      refine z_aload_n (pc := 133) dX6_weakestDrawn_133 rfl rfl ?_
      refine gfX6_30 (pc := 134) dX6_weakestDrawn_134 ym_0 w_10_14 rfl ?_
      refine z_iload (pc := 137) dX6_weakestDrawn_137 rfl ?_
      refine z_iald (pc := 139) dX6_weakestDrawn_139 ym_8 ?_
      refine z_iast (pc := 140) dX6_weakestDrawn_140 ym_5 ?_
      refine z_let (fun s5 => ?_)
      refine z_iinc (y := 1) (pc := 141) dX6_weakestDrawn_141 rfl (by decide) (Nat.le_of_ble_eq_true rfl) (z_so7_5 rfl) ?_
      refine z_goto (tgt := 118) (pc := 144) dX6_weakestDrawn_144 (by decide) ?_
      exact ih l4 (l5 + 1) s5
def fX6_weakestDrawn_2  : Nat → Int32 → Int32 → Int32 → z_Mem → Option (Int32 × z_Mem)
  | 0, _, _, _, _ => none
  | q + 1, l1, l2, l3, σ => if σ.1 0 12 ≤ l3 then (fX6_weakestDrawn_33 (fun σ => z_bd (fX6_weakest σ) (fun r4 s4 => fX6_weakestDrawn_118 (fun l4 σ => some (l4, σ)) z_FU r4 (0 : Int32) s4)) z_FU l2 l1 (0 : Int32) σ) else (z_gd (z_in l3 6) (z_gd (z_in l3 6) (z_st (z_pt σ 8 (z_x l3) (σ.1 5 (z_x l3))) (fun s6 => fX6_weakestDrawn_2  q l1 l2 (l3 + 1) s6))))
theorem kX6_weakestDrawn_2 (D : Nat)   (hD : 74 ≤ D) : ∀ (q : Nat) (l1 : Int32) (l2 : Int32) (l3 : Int32)  (σ : z_Mem), z_Go YM mX6_weakestDrawn (D + 1) z_i 2 [some (zR 0), some (zI l1), some (zI l2), some (zI l3), none, none, none] [] σ (fX6_weakestDrawn_2 q l1 l2 l3 σ) := by
  intro q
  induction q with
  | zero => intros; exact z_none
  | succ q ih =>
    intro l1 l2 l3 σ
    rw [fX6_weakestDrawn_2]
    refine z_iload_n (pc := 2) dX6_weakestDrawn_2 rfl rfl ?_
    refine z_aload_n (pc := 3) dX6_weakestDrawn_3 rfl rfl ?_
    refine gfX6_12 (pc := 4) dX6_weakestDrawn_4 ym_0 w_12_16 rfl ?_
    refine z_icmp_ge (tgt := 28) (pc := 7) dX6_weakestDrawn_7 (by decide) (fun _ => ?_) (fun _ => ?_)
    · refine z_iload_n (pc := 28) dX6_weakestDrawn_28 rfl rfl ?_
      refine z_istore_n (pc := 29) dX6_weakestDrawn_29 rfl (Nat.le_of_ble_eq_true rfl) (z_so7_3 rfl) ?_
      refine z_iconst_0 (pc := 30) dX6_weakestDrawn_30 ?_
      refine z_istore (pc := 31) dX6_weakestDrawn_31 (Nat.le_of_ble_eq_true rfl) (z_so7_4 rfl) ?_
      refine z_weak (lv' := [some (zR 0), none, some (zI l2), some (zI l1), some (zI (0 : Int32)), none, none]) (z_sub_ok ⟨rfl, rfl, rfl, rfl, trivial⟩) (kX6_weakestDrawn_33 D  hD _ (fun  σ => ?_) z_FU l2 l1 (0 : Int32) σ)
      · refine z_aload_n (pc := 109) dX6_weakestDrawn_109 rfl rfl ?_
        refine z_V0i (pc := 110) dX6_weakestDrawn_110 lVX6_262 ym_0 rfl (Nat.le_of_ble_eq_true rfl) (kX6_weakest σ D (by omega)) (fun r4 s4 => ?_)
        refine z_istore (pc := 113) dX6_weakestDrawn_113 (Nat.le_of_ble_eq_true rfl) (z_so7_4 rfl) ?_
        refine z_iconst_0 (pc := 115) dX6_weakestDrawn_115 ?_
        refine z_istore (pc := 116) dX6_weakestDrawn_116 (Nat.le_of_ble_eq_true rfl) (z_so7_5 rfl) ?_
        refine kX6_weakestDrawn_118 D  hD _ (fun l4 σ => ?_) z_FU r4 (0 : Int32) s4
        · refine z_iload (pc := 147) dX6_weakestDrawn_147 rfl ?_
          exact z_iret (pc := 149) dX6_weakestDrawn_149 rfl rfl
    · refine z_aload_n (pc := 10) dX6_weakestDrawn_10 rfl rfl ?_
      refine gfX6_30 (pc := 11) dX6_weakestDrawn_11 ym_0 w_10_14 rfl ?_
      refine z_iload_n (pc := 14) dX6_weakestDrawn_14 rfl rfl ?_
      refine z_aload_n (pc := 15) dX6_weakestDrawn_15 rfl rfl ?_
      refine gfX6_11 (pc := 16) dX6_weakestDrawn_16 ym_0 w_10_11 rfl ?_
      refine z_iload_n (pc := 19) dX6_weakestDrawn_19 rfl rfl ?_
      refine z_iald (pc := 20) dX6_weakestDrawn_20 ym_5 ?_
      refine z_iast (pc := 21) dX6_weakestDrawn_21 ym_8 ?_
      refine z_let (fun s6 => ?_)
      refine z_iinc (y := 1) (pc := 22) dX6_weakestDrawn_22 rfl (by decide) (Nat.le_of_ble_eq_true rfl) (z_so7_3 rfl) ?_
      refine z_goto (tgt := 2) (pc := 25) dX6_weakestDrawn_25 (by decide) ?_
      exact ih l1 l2 (l3 + 1) s6
def fX6_weakestDrawn  (a1 : Int32) (a2 : Int32) (σ : z_Mem) : Option (Int32 × z_Mem) :=
  fX6_weakestDrawn_2 z_FU a1 a2 (0 : Int32) σ
theorem kX6_weakestDrawn   (a1 : Int32) (a2 : Int32) (σ : z_Mem) (D : Nat) (hD : 75 ≤ D) : z_Call YM mX6_weakestDrawn D z_i [zR 0, zI a1, zI a2] σ (fX6_weakestDrawn a1 a2 σ) := by
  obtain ⟨D, rfl⟩ : ∃ E, D = E + 1 := ⟨D - 1, by omega⟩
  replace hD : 74 ≤ D := by omega
  refine z_entry (lv := [some (zR 0), some (zI a1), some (zI a2), none, none, none, none]) (by decide) rfl (Nat.le_of_ble_eq_true rfl) rfl ?_
  rw [fX6_weakestDrawn]
  refine z_iconst_0 (pc := 0) dX6_weakestDrawn_0 ?_
  refine z_istore_n (pc := 1) dX6_weakestDrawn_1 rfl (Nat.le_of_ble_eq_true rfl) (z_so7_3 rfl) ?_
  exact kX6_weakestDrawn_2 D  hD z_FU a1 a2 (0 : Int32) σ
def fX6_drawn  (a1 : Int32) (a2 : Int32) (σ : z_Mem) : Option (Int32 × z_Mem) :=
  z_bd (fX6_in a2.toInt64 (0 : Int64) (40 : Int64) σ) (fun r1 s1 => if r1 = 0 then (some ((-2 : Int32), s1)) else (z_bd (fX6_weakestDrawn a1 a2 s1) (fun r2 s2 => some (r2, s2))))
theorem kX6_drawn   (a1 : Int32) (a2 : Int32) (σ : z_Mem) (D : Nat) (hD : 76 ≤ D) : z_Call YM mX6_drawn D z_i [zR 0, zI a1, zI a2] σ (fX6_drawn a1 a2 σ) := by
  obtain ⟨D, rfl⟩ : ∃ E, D = E + 1 := ⟨D - 1, by omega⟩
  replace hD : 75 ≤ D := by omega
  refine z_entry (lv := [some (zR 0), some (zI a1), some (zI a2)]) (by decide) rfl (Nat.le_of_ble_eq_true rfl) rfl ?_
  rw [fX6_drawn]
  refine z_iload_n (pc := 0) dX6_drawn_0 rfl rfl ?_
  refine z_i2l (pc := 1) dX6_drawn_1 ?_
  refine z_lconst (v := 0) (pc := 2) dX6_drawn_2 rfl ?_
  refine z_ldc2 (v := 40) (pc := 3) dX6_drawn_3 w_29_7 ?_
  refine z_S3i (pc := 6) dX6_drawn_6 lSX6_70 (Nat.le_of_ble_eq_true rfl) (kX6_in a2.toInt64 (0 : Int64) (40 : Int64) σ D (by omega)) (fun r1 s1 => ?_)
  refine z_if_eq (tgt := 21) (pc := 9) dX6_drawn_9 (by decide) (fun _ => ?_) (fun _ => ?_)
  · refine z_bipush_m2 (pc := 21) dX6_drawn_21 ?_
    exact z_iret (pc := 23) dX6_drawn_23 rfl rfl
  · refine z_aload_n (pc := 12) dX6_drawn_12 rfl rfl ?_
    refine z_iload_n (pc := 13) dX6_drawn_13 rfl rfl ?_
    refine z_iload_n (pc := 14) dX6_drawn_14 rfl rfl ?_
    refine z_V2i (pc := 15) dX6_drawn_15 lVX6_330 ym_0 rfl (Nat.le_of_ble_eq_true rfl) (kX6_weakestDrawn a1 a2 s1 D (by omega)) (fun r2 s2 => ?_)
    refine z_goto (tgt := 23) (pc := 18) dX6_drawn_18 (by decide) ?_
    exact z_iret (pc := 23) dX6_drawn_23 rfl rfl
def fX6_chance_45  : Nat → Int32 → Int32 → Int32 → Int32 → Int64 → Int32 → z_Mem → Option (Int64 × z_Mem)
  | 0, _, _, _, _, _, _, _ => none
  | q + 1, l1, l2, l3, l4, l5, l7, σ => if l2 ≤ l7 then (z_bd (fX6_lowest l5 l2.toInt64 l4 σ) (fun r4 s4 => some (r4, s4))) else (z_bd (fX6_weakestDrawn (l1 + l7) (6 : Int32) σ) (fun r5 s5 => if r5 < l3 then (fX6_chance_45  q l1 l2 l3 l4 (l5 + (0 : Int64)) (l7 + 1) s5) else (fX6_chance_45  q l1 l2 l3 l4 (l5 + (1 : Int64)) (l7 + 1) s5)))
theorem kX6_chance_45 (D : Nat)   (hD : 75 ≤ D) : ∀ (q : Nat) (l1 : Int32) (l2 : Int32) (l3 : Int32) (l4 : Int32) (l5 : Int64) (l7 : Int32)  (σ : z_Mem), z_Go YM mX6_chance (D + 1) z_l 45 [some (zR 0), some (zI l1), some (zI l2), some (zI l3), some (zI l4), some (zL l5), none, some (zI l7)] [] σ (fX6_chance_45 q l1 l2 l3 l4 l5 l7 σ) := by
  intro q
  induction q with
  | zero => intros; exact z_none
  | succ q ih =>
    intro l1 l2 l3 l4 l5 l7 σ
    rw [fX6_chance_45]
    refine z_iload (pc := 45) dX6_chance_45 rfl ?_
    refine z_iload_n (pc := 47) dX6_chance_47 rfl rfl ?_
    refine z_icmp_ge (tgt := 81) (pc := 48) dX6_chance_48 (by decide) (fun _ => ?_) (fun _ => ?_)
    · refine z_lload (pc := 81) dX6_chance_81 rfl ?_
      refine z_iload_n (pc := 83) dX6_chance_83 rfl rfl ?_
      refine z_i2l (pc := 84) dX6_chance_84 ?_
      refine z_iload (pc := 85) dX6_chance_85 rfl ?_
      refine z_S3l (pc := 87) dX6_chance_87 lSX6_314 (Nat.le_of_ble_eq_true rfl) (kX6_lowest l5 l2.toInt64 l4 σ D (by omega)) (fun r4 s4 => ?_)
      exact z_lret (pc := 90) dX6_chance_90 rfl
    · refine z_lload (pc := 51) dX6_chance_51 rfl ?_
      refine z_aload_n (pc := 53) dX6_chance_53 rfl rfl ?_
      refine z_iload_n (pc := 54) dX6_chance_54 rfl rfl ?_
      refine z_iload (pc := 55) dX6_chance_55 rfl ?_
      refine z_iadd (pc := 57) dX6_chance_57 ?_
      refine z_bipush_6 (pc := 58) dX6_chance_58 ?_
      refine z_V2i (pc := 60) dX6_chance_60 lVX6_330 ym_0 rfl (Nat.le_of_ble_eq_true rfl) (kX6_weakestDrawn (l1 + l7) (6 : Int32) σ D (by omega)) (fun r5 s5 => ?_)
      refine z_iload_n (pc := 63) dX6_chance_63 rfl rfl ?_
      refine z_icmp_lt (tgt := 71) (pc := 64) dX6_chance_64 (by decide) (fun _ => ?_) (fun _ => ?_)
      · refine z_lconst (v := 0) (pc := 71) dX6_chance_71 rfl ?_
        refine z_ladd (pc := 72) dX6_chance_72 ?_
        refine z_lstore (pc := 73) dX6_chance_73 (Nat.le_of_ble_eq_true rfl) (z_sl8_5 rfl) ?_
        refine z_iinc (y := 1) (pc := 75) dX6_chance_75 rfl (by decide) (Nat.le_of_ble_eq_true rfl) (z_so8_7 rfl) ?_
        refine z_goto (tgt := 45) (pc := 78) dX6_chance_78 (by decide) ?_
        exact ih l1 l2 l3 l4 (l5 + (0 : Int64)) (l7 + 1) s5
      · refine z_lconst (v := 1) (pc := 67) dX6_chance_67 rfl ?_
        refine z_goto (tgt := 72) (pc := 68) dX6_chance_68 (by decide) ?_
        refine z_ladd (pc := 72) dX6_chance_72 ?_
        refine z_lstore (pc := 73) dX6_chance_73 (Nat.le_of_ble_eq_true rfl) (z_sl8_5 rfl) ?_
        refine z_iinc (y := 1) (pc := 75) dX6_chance_75 rfl (by decide) (Nat.le_of_ble_eq_true rfl) (z_so8_7 rfl) ?_
        refine z_goto (tgt := 45) (pc := 78) dX6_chance_78 (by decide) ?_
        exact ih l1 l2 l3 l4 (l5 + (1 : Int64)) (l7 + 1) s5
def fX6_chance  (a1 : Int32) (a2 : Int32) (a3 : Int32) (a4 : Int32) (σ : z_Mem) : Option (Int64 × z_Mem) :=
  z_bd (fX6_in a2.toInt64 (1 : Int64) (40 : Int64) σ) (fun r1 s1 => if r1 = 0 then (some ((-4611686018427387904 : Int64), s1)) else (z_bd (fX6_in a3.toInt64 (0 : Int64) (99 : Int64) s1) (fun r2 s2 => if r2 = 0 then (some ((-4611686018427387904 : Int64), s2)) else (z_bd (fX6_in a4.toInt64 (0 : Int64) (1 : Int64) s2) (fun r3 s3 => if r3 = 0 then (some ((-4611686018427387904 : Int64), s3)) else (fX6_chance_45 z_FU a1 a2 a3 a4 (0 : Int64) (0 : Int32) s3))))))
theorem kX6_chance   (a1 : Int32) (a2 : Int32) (a3 : Int32) (a4 : Int32) (σ : z_Mem) (D : Nat) (hD : 76 ≤ D) : z_Call YM mX6_chance D z_l [zR 0, zI a1, zI a2, zI a3, zI a4] σ (fX6_chance a1 a2 a3 a4 σ) := by
  obtain ⟨D, rfl⟩ : ∃ E, D = E + 1 := ⟨D - 1, by omega⟩
  replace hD : 75 ≤ D := by omega
  refine z_entry (lv := [some (zR 0), some (zI a1), some (zI a2), some (zI a3), some (zI a4), none, none, none]) (by decide) rfl (Nat.le_of_ble_eq_true rfl) rfl ?_
  rw [fX6_chance]
  refine z_iload_n (pc := 0) dX6_chance_0 rfl rfl ?_
  refine z_i2l (pc := 1) dX6_chance_1 ?_
  refine z_lconst (v := 1) (pc := 2) dX6_chance_2 rfl ?_
  refine z_ldc2 (v := 40) (pc := 3) dX6_chance_3 w_29_7 ?_
  refine z_S3i (pc := 6) dX6_chance_6 lSX6_70 (Nat.le_of_ble_eq_true rfl) (kX6_in a2.toInt64 (1 : Int64) (40 : Int64) σ D (by omega)) (fun r1 s1 => ?_)
  refine z_if_eq (tgt := 35) (pc := 9) dX6_chance_9 (by decide) (fun _ => ?_) (fun _ => ?_)
  · refine z_ldc2 (v := -4611686018427387904) (pc := 35) dX6_chance_35 w_34_8 ?_
    exact z_lret (pc := 38) dX6_chance_38 rfl
  · refine z_iload_n (pc := 12) dX6_chance_12 rfl rfl ?_
    refine z_i2l (pc := 13) dX6_chance_13 ?_
    refine z_lconst (v := 0) (pc := 14) dX6_chance_14 rfl ?_
    refine z_ldc2 (v := 99) (pc := 15) dX6_chance_15 w_19_1 ?_
    refine z_S3i (pc := 18) dX6_chance_18 lSX6_70 (Nat.le_of_ble_eq_true rfl) (kX6_in a3.toInt64 (0 : Int64) (99 : Int64) s1 D (by omega)) (fun r2 s2 => ?_)
    refine z_if_eq (tgt := 35) (pc := 21) dX6_chance_21 (by decide) (fun _ => ?_) (fun _ => ?_)
    · refine z_ldc2 (v := -4611686018427387904) (pc := 35) dX6_chance_35 w_34_8 ?_
      exact z_lret (pc := 38) dX6_chance_38 rfl
    · refine z_iload (pc := 24) dX6_chance_24 rfl ?_
      refine z_i2l (pc := 26) dX6_chance_26 ?_
      refine z_lconst (v := 0) (pc := 27) dX6_chance_27 rfl ?_
      refine z_lconst (v := 1) (pc := 28) dX6_chance_28 rfl ?_
      refine z_S3i (pc := 29) dX6_chance_29 lSX6_70 (Nat.le_of_ble_eq_true rfl) (kX6_in a4.toInt64 (0 : Int64) (1 : Int64) s2 D (by omega)) (fun r3 s3 => ?_)
      refine z_if_ne (tgt := 39) (pc := 32) dX6_chance_32 (by decide) (fun _ => ?_) (fun _ => ?_)
      · refine z_lconst (v := 0) (pc := 39) dX6_chance_39 rfl ?_
        refine z_lstore (pc := 40) dX6_chance_40 (Nat.le_of_ble_eq_true rfl) (z_sl8_5 rfl) ?_
        refine z_iconst_0 (pc := 42) dX6_chance_42 ?_
        refine z_istore (pc := 43) dX6_chance_43 (Nat.le_of_ble_eq_true rfl) (z_so8_7 rfl) ?_
        exact kX6_chance_45 D  hD z_FU a1 a2 a3 a4 (0 : Int64) (0 : Int32) s3
      · refine z_ldc2 (v := -4611686018427387904) (pc := 35) dX6_chance_35 w_34_8 ?_
        exact z_lret (pc := 38) dX6_chance_38 rfl
def fX6_image_28  (K52 : z_Mem → Option (Int32 × z_Mem)) : Nat → Int32 → z_Mem → Option (Int32 × z_Mem)
  | 0, _, _ => none
  | q + 1, l1, σ => if (6 : Int32) ≤ l1 then (K52  σ) else (z_gd (z_in l1 6) (z_gd (z_in l1 6) (z_st (z_pt σ 10 (z_x l1) (σ.1 5 (z_x l1))) (fun s1 => fX6_image_28  K52 q (l1 + 1) s1))))
theorem kX6_image_28 (D : Nat)   (hD : 0 ≤ D) (K52 : z_Mem → Option (Int32 × z_Mem)) (hK52 : ∀  (σ : z_Mem), z_Go YM mX6_image (D + 1) z_i 52 [some (zR 0), none] [] σ (K52  σ)) : ∀ (q : Nat) (l1 : Int32)  (σ : z_Mem), z_Go YM mX6_image (D + 1) z_i 28 [some (zR 0), some (zI l1)] [] σ (fX6_image_28 K52 q l1 σ) := by
  intro q
  induction q with
  | zero => intros; exact z_none
  | succ q ih =>
    intro l1 σ
    rw [fX6_image_28]
    refine z_iload_n (pc := 28) dX6_image_28 rfl rfl ?_
    refine z_bipush_6 (pc := 29) dX6_image_29 ?_
    refine z_icmp_ge (tgt := 52) (pc := 31) dX6_image_31 (by decide) (fun _ => ?_) (fun _ => ?_)
    · exact z_weak (lv' := [some (zR 0), none]) (z_sub_ok ⟨rfl, trivial⟩) (hK52  σ)
    · refine z_aload_n (pc := 34) dX6_image_34 rfl rfl ?_
      refine gfX6_34 (pc := 35) dX6_image_35 ym_0 w_10_16 rfl ?_
      refine z_iload_n (pc := 38) dX6_image_38 rfl rfl ?_
      refine z_aload_n (pc := 39) dX6_image_39 rfl rfl ?_
      refine gfX6_11 (pc := 40) dX6_image_40 ym_0 w_10_11 rfl ?_
      refine z_iload_n (pc := 43) dX6_image_43 rfl rfl ?_
      refine z_iald (pc := 44) dX6_image_44 ym_5 ?_
      refine z_iast (pc := 45) dX6_image_45 ym_10 ?_
      refine z_let (fun s1 => ?_)
      refine z_iinc (y := 1) (pc := 46) dX6_image_46 rfl (by decide) (Nat.le_of_ble_eq_true rfl) (z_so2_1 rfl) ?_
      refine z_goto (tgt := 28) (pc := 49) dX6_image_49 (by decide) ?_
      exact ih (l1 + 1) s1
def fX6_image_2  : Nat → Int32 → z_Mem → Option (Int32 × z_Mem)
  | 0, _, _ => none
  | q + 1, l1, σ => if (18 : Int32) ≤ l1 then (fX6_image_28 (fun σ => z_st (z_pt σ 0 35 (σ.1 0 10)) (fun s2 => z_st (z_pt s2 0 36 (s2.1 0 12)) (fun s3 => z_st (z_pt s3 0 37 (s3.1 0 7)) (fun s4 => z_st (z_pt s4 0 38 (s4.1 0 8)) (fun s5 => z_st (z_pt s5 0 39 (s5.1 0 4)) (fun s6 => some (s6.1 0 10, s6))))))) z_FU (0 : Int32) σ) else (z_gd (z_in l1 18) (z_gd (z_in l1 18) (z_st (z_pt σ 9 (z_x l1) (σ.1 4 (z_x l1))) (fun s7 => fX6_image_2  q (l1 + 1) s7))))
theorem kX6_image_2 (D : Nat)   (hD : 0 ≤ D) : ∀ (q : Nat) (l1 : Int32)  (σ : z_Mem), z_Go YM mX6_image (D + 1) z_i 2 [some (zR 0), some (zI l1)] [] σ (fX6_image_2 q l1 σ) := by
  intro q
  induction q with
  | zero => intros; exact z_none
  | succ q ih =>
    intro l1 σ
    rw [fX6_image_2]
    refine z_iload_n (pc := 2) dX6_image_2 rfl rfl ?_
    refine z_bipush_18 (pc := 3) dX6_image_3 ?_
    refine z_icmp_ge (tgt := 26) (pc := 5) dX6_image_5 (by decide) (fun _ => ?_) (fun _ => ?_)
    · refine z_iconst_0 (pc := 26) dX6_image_26 ?_
      refine z_istore_n (pc := 27) dX6_image_27 rfl (Nat.le_of_ble_eq_true rfl) (z_so2_1 rfl) ?_
      refine kX6_image_28 D  hD _ (fun  σ => ?_) z_FU (0 : Int32) σ
      · refine z_aload_n (pc := 52) dX6_image_52 rfl rfl ?_
        refine z_aload_n (pc := 53) dX6_image_53 rfl rfl ?_
        refine gfX6_10 (pc := 54) dX6_image_54 ym_0 w_12_21 rfl ?_
        refine pfX6_35 (pc := 57) dX6_image_57 ym_0 w_10_17 rfl ?_
        refine z_let (fun s2 => ?_)
        refine z_aload_n (pc := 60) dX6_image_60 rfl rfl ?_
        refine z_aload_n (pc := 61) dX6_image_61 rfl rfl ?_
        refine gfX6_12 (pc := 62) dX6_image_62 ym_0 w_12_16 rfl ?_
        refine pfX6_36 (pc := 65) dX6_image_65 ym_0 w_38_11 rfl ?_
        refine z_let (fun s3 => ?_)
        refine z_aload_n (pc := 68) dX6_image_68 rfl rfl ?_
        refine z_aload_n (pc := 69) dX6_image_69 rfl rfl ?_
        refine gfX6_7 (pc := 70) dX6_image_70 ym_0 w_13_10 rfl ?_
        refine pfX6_37 (pc := 73) dX6_image_73 ym_0 w_38_12 rfl ?_
        refine z_let (fun s4 => ?_)
        refine z_aload_n (pc := 76) dX6_image_76 rfl rfl ?_
        refine z_aload_n (pc := 77) dX6_image_77 rfl rfl ?_
        refine gfX6_8 (pc := 78) dX6_image_78 ym_0 w_13_11 rfl ?_
        refine pfX6_38 (pc := 81) dX6_image_81 ym_0 w_38_13 rfl ?_
        refine z_let (fun s5 => ?_)
        refine z_aload_n (pc := 84) dX6_image_84 rfl rfl ?_
        refine z_aload_n (pc := 85) dX6_image_85 rfl rfl ?_
        refine gfX6_4 (pc := 86) dX6_image_86 ym_0 w_14_6 rfl ?_
        refine pfX6_39 (pc := 89) dX6_image_89 ym_0 w_38_14 rfl ?_
        refine z_let (fun s6 => ?_)
        refine z_aload_n (pc := 92) dX6_image_92 rfl rfl ?_
        refine gfX6_10 (pc := 93) dX6_image_93 ym_0 w_12_21 rfl ?_
        exact z_iret (pc := 96) dX6_image_96 rfl rfl
    · refine z_aload_n (pc := 8) dX6_image_8 rfl rfl ?_
      refine gfX6_33 (pc := 9) dX6_image_9 ym_0 w_10_15 rfl ?_
      refine z_iload_n (pc := 12) dX6_image_12 rfl rfl ?_
      refine z_aload_n (pc := 13) dX6_image_13 rfl rfl ?_
      refine gfX6_9 (pc := 14) dX6_image_14 ym_0 w_10_10 rfl ?_
      refine z_iload_n (pc := 17) dX6_image_17 rfl rfl ?_
      refine z_iald (pc := 18) dX6_image_18 ym_4 ?_
      refine z_iast (pc := 19) dX6_image_19 ym_9 ?_
      refine z_let (fun s7 => ?_)
      refine z_iinc (y := 1) (pc := 20) dX6_image_20 rfl (by decide) (Nat.le_of_ble_eq_true rfl) (z_so2_1 rfl) ?_
      refine z_goto (tgt := 2) (pc := 23) dX6_image_23 (by decide) ?_
      exact ih (l1 + 1) s7
def fX6_image   (σ : z_Mem) : Option (Int32 × z_Mem) :=
  fX6_image_2 z_FU (0 : Int32) σ
theorem kX6_image    (σ : z_Mem) (D : Nat) (hD : 1 ≤ D) : z_Call YM mX6_image D z_i [zR 0] σ (fX6_image σ) := by
  obtain ⟨D, rfl⟩ : ∃ E, D = E + 1 := ⟨D - 1, by omega⟩
  replace hD : 0 ≤ D := by omega
  refine z_entry (lv := [some (zR 0), none]) (by decide) rfl (Nat.le_of_ble_eq_true rfl) rfl ?_
  rw [fX6_image]
  refine z_iconst_0 (pc := 0) dX6_image_0 ?_
  refine z_istore_n (pc := 1) dX6_image_1 rfl (Nat.le_of_ble_eq_true rfl) (z_so2_1 rfl) ?_
  exact kX6_image_2 D  hD z_FU (0 : Int32) σ
def fX6_back_39  (K63 : z_Mem → Option (Int32 × z_Mem)) : Nat → Int32 → z_Mem → Option (Int32 × z_Mem)
  | 0, _, _ => none
  | q + 1, l1, σ => if (6 : Int32) ≤ l1 then (K63  σ) else (z_gd (z_in l1 6) (z_gd (z_in l1 6) (z_st (z_pt σ 5 (z_x l1) (σ.1 10 (z_x l1))) (fun s1 => fX6_back_39  K63 q (l1 + 1) s1))))
theorem kX6_back_39 (D : Nat)   (hD : 0 ≤ D) (K63 : z_Mem → Option (Int32 × z_Mem)) (hK63 : ∀  (σ : z_Mem), z_Go YM mX6_back (D + 1) z_i 63 [some (zR 0), none] [] σ (K63  σ)) : ∀ (q : Nat) (l1 : Int32)  (σ : z_Mem), z_Go YM mX6_back (D + 1) z_i 39 [some (zR 0), some (zI l1)] [] σ (fX6_back_39 K63 q l1 σ) := by
  intro q
  induction q with
  | zero => intros; exact z_none
  | succ q ih =>
    intro l1 σ
    rw [fX6_back_39]
    refine z_iload_n (pc := 39) dX6_back_39 rfl rfl ?_
    refine z_bipush_6 (pc := 40) dX6_back_40 ?_
    refine z_icmp_ge (tgt := 63) (pc := 42) dX6_back_42 (by decide) (fun _ => ?_) (fun _ => ?_)
    · exact z_weak (lv' := [some (zR 0), none]) (z_sub_ok ⟨rfl, trivial⟩) (hK63  σ)
    · refine z_aload_n (pc := 45) dX6_back_45 rfl rfl ?_
      refine gfX6_11 (pc := 46) dX6_back_46 ym_0 w_10_11 rfl ?_
      refine z_iload_n (pc := 49) dX6_back_49 rfl rfl ?_
      refine z_aload_n (pc := 50) dX6_back_50 rfl rfl ?_
      refine gfX6_34 (pc := 51) dX6_back_51 ym_0 w_10_16 rfl ?_
      refine z_iload_n (pc := 54) dX6_back_54 rfl rfl ?_
      refine z_iald (pc := 55) dX6_back_55 ym_10 ?_
      refine z_iast (pc := 56) dX6_back_56 ym_5 ?_
      refine z_let (fun s1 => ?_)
      refine z_iinc (y := 1) (pc := 57) dX6_back_57 rfl (by decide) (Nat.le_of_ble_eq_true rfl) (z_so2_1 rfl) ?_
      refine z_goto (tgt := 39) (pc := 60) dX6_back_60 (by decide) ?_
      exact ih (l1 + 1) s1
def fX6_back_13  : Nat → Int32 → z_Mem → Option (Int32 × z_Mem)
  | 0, _, _ => none
  | q + 1, l1, σ => if (18 : Int32) ≤ l1 then (fX6_back_39 (fun σ => z_st (z_pt σ 0 10 (σ.1 0 35)) (fun s2 => z_st (z_pt s2 0 12 (s2.1 0 36)) (fun s3 => z_st (z_pt s3 0 7 (s3.1 0 37)) (fun s4 => z_st (z_pt s4 0 8 (s4.1 0 38)) (fun s5 => z_st (z_pt s5 0 4 (s5.1 0 39)) (fun s6 => some (s6.1 0 10, s6))))))) z_FU (0 : Int32) σ) else (z_gd (z_in l1 18) (z_gd (z_in l1 18) (z_st (z_pt σ 4 (z_x l1) (σ.1 9 (z_x l1))) (fun s7 => fX6_back_13  q (l1 + 1) s7))))
theorem kX6_back_13 (D : Nat)   (hD : 0 ≤ D) : ∀ (q : Nat) (l1 : Int32)  (σ : z_Mem), z_Go YM mX6_back (D + 1) z_i 13 [some (zR 0), some (zI l1)] [] σ (fX6_back_13 q l1 σ) := by
  intro q
  induction q with
  | zero => intros; exact z_none
  | succ q ih =>
    intro l1 σ
    rw [fX6_back_13]
    refine z_iload_n (pc := 13) dX6_back_13 rfl rfl ?_
    refine z_bipush_18 (pc := 14) dX6_back_14 ?_
    refine z_icmp_ge (tgt := 37) (pc := 16) dX6_back_16 (by decide) (fun _ => ?_) (fun _ => ?_)
    · refine z_iconst_0 (pc := 37) dX6_back_37 ?_
      refine z_istore_n (pc := 38) dX6_back_38 rfl (Nat.le_of_ble_eq_true rfl) (z_so2_1 rfl) ?_
      refine kX6_back_39 D  hD _ (fun  σ => ?_) z_FU (0 : Int32) σ
      · refine z_aload_n (pc := 63) dX6_back_63 rfl rfl ?_
        refine z_aload_n (pc := 64) dX6_back_64 rfl rfl ?_
        refine gfX6_35 (pc := 65) dX6_back_65 ym_0 w_10_17 rfl ?_
        refine pfX6_10 (pc := 68) dX6_back_68 ym_0 w_12_21 rfl ?_
        refine z_let (fun s2 => ?_)
        refine z_aload_n (pc := 71) dX6_back_71 rfl rfl ?_
        refine z_aload_n (pc := 72) dX6_back_72 rfl rfl ?_
        refine gfX6_36 (pc := 73) dX6_back_73 ym_0 w_38_11 rfl ?_
        refine pfX6_12 (pc := 76) dX6_back_76 ym_0 w_12_16 rfl ?_
        refine z_let (fun s3 => ?_)
        refine z_aload_n (pc := 79) dX6_back_79 rfl rfl ?_
        refine z_aload_n (pc := 80) dX6_back_80 rfl rfl ?_
        refine gfX6_37 (pc := 81) dX6_back_81 ym_0 w_38_12 rfl ?_
        refine pfX6_7 (pc := 84) dX6_back_84 ym_0 w_13_10 rfl ?_
        refine z_let (fun s4 => ?_)
        refine z_aload_n (pc := 87) dX6_back_87 rfl rfl ?_
        refine z_aload_n (pc := 88) dX6_back_88 rfl rfl ?_
        refine gfX6_38 (pc := 89) dX6_back_89 ym_0 w_38_13 rfl ?_
        refine pfX6_8 (pc := 92) dX6_back_92 ym_0 w_13_11 rfl ?_
        refine z_let (fun s5 => ?_)
        refine z_aload_n (pc := 95) dX6_back_95 rfl rfl ?_
        refine z_aload_n (pc := 96) dX6_back_96 rfl rfl ?_
        refine gfX6_39 (pc := 97) dX6_back_97 ym_0 w_38_14 rfl ?_
        refine pfX6_4 (pc := 100) dX6_back_100 ym_0 w_14_6 rfl ?_
        refine z_let (fun s6 => ?_)
        refine z_aload_n (pc := 103) dX6_back_103 rfl rfl ?_
        refine gfX6_10 (pc := 104) dX6_back_104 ym_0 w_12_21 rfl ?_
        exact z_iret (pc := 107) dX6_back_107 rfl rfl
    · refine z_aload_n (pc := 19) dX6_back_19 rfl rfl ?_
      refine gfX6_9 (pc := 20) dX6_back_20 ym_0 w_10_10 rfl ?_
      refine z_iload_n (pc := 23) dX6_back_23 rfl rfl ?_
      refine z_aload_n (pc := 24) dX6_back_24 rfl rfl ?_
      refine gfX6_33 (pc := 25) dX6_back_25 ym_0 w_10_15 rfl ?_
      refine z_iload_n (pc := 28) dX6_back_28 rfl rfl ?_
      refine z_iald (pc := 29) dX6_back_29 ym_9 ?_
      refine z_iast (pc := 30) dX6_back_30 ym_4 ?_
      refine z_let (fun s7 => ?_)
      refine z_iinc (y := 1) (pc := 31) dX6_back_31 rfl (by decide) (Nat.le_of_ble_eq_true rfl) (z_so2_1 rfl) ?_
      refine z_goto (tgt := 13) (pc := 34) dX6_back_34 (by decide) ?_
      exact ih (l1 + 1) s7
def fX6_back   (σ : z_Mem) : Option (Int32 × z_Mem) :=
  if σ.1 0 35 = (-1 : Int32) then (some ((-3 : Int32), σ)) else (fX6_back_13 z_FU (0 : Int32) σ)
theorem kX6_back    (σ : z_Mem) (D : Nat) (hD : 1 ≤ D) : z_Call YM mX6_back D z_i [zR 0] σ (fX6_back σ) := by
  obtain ⟨D, rfl⟩ : ∃ E, D = E + 1 := ⟨D - 1, by omega⟩
  replace hD : 0 ≤ D := by omega
  refine z_entry (lv := [some (zR 0), none]) (by decide) rfl (Nat.le_of_ble_eq_true rfl) rfl ?_
  rw [fX6_back]
  refine z_aload_n (pc := 0) dX6_back_0 rfl rfl ?_
  refine gfX6_35 (pc := 1) dX6_back_1 ym_0 w_10_17 rfl ?_
  refine z_iconst_m1 (pc := 4) dX6_back_4 ?_
  refine z_icmp_ne (tgt := 11) (pc := 5) dX6_back_5 (by decide) (fun _ => ?_) (fun _ => ?_)
  · refine z_iconst_0 (pc := 11) dX6_back_11 ?_
    refine z_istore_n (pc := 12) dX6_back_12 rfl (Nat.le_of_ble_eq_true rfl) (z_so2_1 rfl) ?_
    exact kX6_back_13 D  hD z_FU (0 : Int32) σ
  · refine z_bipush_m3 (pc := 8) dX6_back_8 ?_
    exact z_iret (pc := 10) dX6_back_10 rfl rfl
def fX6_count  (a1 : Int32) (σ : z_Mem) : Option (Int32 × z_Mem) :=
  z_bd (fX6_in a1.toInt64 (0 : Int64) (5 : Int64) σ) (fun r1 s1 => if r1 = 0 then (some ((-2 : Int32), s1)) else (if a1 = 0 then (some (s1.1 0 10, s1)) else (if a1 = (1 : Int32) then (some (s1.1 0 12, s1)) else (if a1 = (2 : Int32) then (some (s1.1 0 7, s1)) else (if a1 = (3 : Int32) then (some (s1.1 0 3, s1)) else (if a1 = (4 : Int32) then (some (s1.1 0 6, s1)) else (some (s1.1 0 4, s1))))))))
theorem kX6_count   (a1 : Int32) (σ : z_Mem) (D : Nat) (hD : 2 ≤ D) : z_Call YM mX6_count D z_i [zR 0, zI a1] σ (fX6_count a1 σ) := by
  obtain ⟨D, rfl⟩ : ∃ E, D = E + 1 := ⟨D - 1, by omega⟩
  replace hD : 1 ≤ D := by omega
  refine z_entry (lv := [some (zR 0), some (zI a1)]) (by decide) rfl (Nat.le_of_ble_eq_true rfl) rfl ?_
  rw [fX6_count]
  refine z_iload_n (pc := 0) dX6_count_0 rfl rfl ?_
  refine z_i2l (pc := 1) dX6_count_1 ?_
  refine z_lconst (v := 0) (pc := 2) dX6_count_2 rfl ?_
  refine z_ldc2 (v := 5) (pc := 3) dX6_count_3 w_18_23 ?_
  refine z_S3i (pc := 6) dX6_count_6 lSX6_70 (Nat.le_of_ble_eq_true rfl) (kX6_in a1.toInt64 (0 : Int64) (5 : Int64) σ D (by omega)) (fun r1 s1 => ?_)
  refine z_if_ne (tgt := 15) (pc := 9) dX6_count_9 (by decide) (fun _ => ?_) (fun _ => ?_)
  · refine z_iload_n (pc := 15) dX6_count_15 rfl rfl ?_
    refine z_if_ne (tgt := 26) (pc := 16) dX6_count_16 (by decide) (fun _ => ?_) (fun _ => ?_)
    · refine z_iload_n (pc := 26) dX6_count_26 rfl rfl ?_
      refine z_iconst_1 (pc := 27) dX6_count_27 ?_
      refine z_icmp_ne (tgt := 38) (pc := 28) dX6_count_28 (by decide) (fun _ => ?_) (fun _ => ?_)
      · refine z_iload_n (pc := 38) dX6_count_38 rfl rfl ?_
        refine z_iconst_2 (pc := 39) dX6_count_39 ?_
        refine z_icmp_ne (tgt := 50) (pc := 40) dX6_count_40 (by decide) (fun _ => ?_) (fun _ => ?_)
        · refine z_iload_n (pc := 50) dX6_count_50 rfl rfl ?_
          refine z_iconst_3 (pc := 51) dX6_count_51 ?_
          refine z_icmp_ne (tgt := 62) (pc := 52) dX6_count_52 (by decide) (fun _ => ?_) (fun _ => ?_)
          · refine z_iload_n (pc := 62) dX6_count_62 rfl rfl ?_
            refine z_iconst_4 (pc := 63) dX6_count_63 ?_
            refine z_icmp_ne (tgt := 74) (pc := 64) dX6_count_64 (by decide) (fun _ => ?_) (fun _ => ?_)
            · refine z_aload_n (pc := 74) dX6_count_74 rfl rfl ?_
              refine gfX6_4 (pc := 75) dX6_count_75 ym_0 w_14_6 rfl ?_
              exact z_iret (pc := 78) dX6_count_78 rfl rfl
            · refine z_aload_n (pc := 67) dX6_count_67 rfl rfl ?_
              refine gfX6_6 (pc := 68) dX6_count_68 ym_0 w_23_5 rfl ?_
              refine z_goto (tgt := 78) (pc := 71) dX6_count_71 (by decide) ?_
              exact z_iret (pc := 78) dX6_count_78 rfl rfl
          · refine z_aload_n (pc := 55) dX6_count_55 rfl rfl ?_
            refine gfX6_3 (pc := 56) dX6_count_56 ym_0 w_10_23 rfl ?_
            refine z_goto (tgt := 78) (pc := 59) dX6_count_59 (by decide) ?_
            exact z_iret (pc := 78) dX6_count_78 rfl rfl
        · refine z_aload_n (pc := 43) dX6_count_43 rfl rfl ?_
          refine gfX6_7 (pc := 44) dX6_count_44 ym_0 w_13_10 rfl ?_
          refine z_goto (tgt := 78) (pc := 47) dX6_count_47 (by decide) ?_
          exact z_iret (pc := 78) dX6_count_78 rfl rfl
      · refine z_aload_n (pc := 31) dX6_count_31 rfl rfl ?_
        refine gfX6_12 (pc := 32) dX6_count_32 ym_0 w_12_16 rfl ?_
        refine z_goto (tgt := 78) (pc := 35) dX6_count_35 (by decide) ?_
        exact z_iret (pc := 78) dX6_count_78 rfl rfl
    · refine z_aload_n (pc := 19) dX6_count_19 rfl rfl ?_
      refine gfX6_10 (pc := 20) dX6_count_20 ym_0 w_12_21 rfl ?_
      refine z_goto (tgt := 78) (pc := 23) dX6_count_23 (by decide) ?_
      exact z_iret (pc := 78) dX6_count_78 rfl rfl
  · refine z_bipush_m2 (pc := 12) dX6_count_12 ?_
    exact z_iret (pc := 14) dX6_count_14 rfl rfl
def fX6_cell  (a1 : Int32) (a2 : Int32) (a3 : Int32) (σ : z_Mem) : Option (Int32 × z_Mem) :=
  z_bd (fX6_isSheet a1 σ) (fun r1 s1 => if r1 = 0 then (some ((-2 : Int32), s1)) else (z_gd (z_in a1 4) (if s1.1 11 (z_x a1) = 0 then (some ((-11 : Int32), s1)) else (z_gd (z_in a1 4) (z_bd (fX6_in a2.toInt64 (0 : Int64) (((s1.1 13 (z_x a1)) - (1 : Int32)).toInt64) s1) (fun r2 s2 => if r2 = 0 then (some ((-12 : Int32), s2)) else (z_gd (z_in a1 4) (if s2.1 12 (z_x a1) = 0 then (z_gd (z_in (((40 : Int32) * a1) + a2) 160) (z_st (z_pt s2 14 (z_x (((40 : Int32) * a1) + a2)) a3.toInt8.toInt32) (fun s5 => some ((1 : Int32), s5)))) else (z_gd (z_in a1 4) (if s2.1 12 (z_x a1) = (1 : Int32) then (z_gd (z_in (((40 : Int32) * a1) + a2) 160) (z_st (z_pt s2 14 (z_x (((40 : Int32) * a1) + a2)) a3.toInt16.toInt32) (fun s4 => some ((1 : Int32), s4)))) else (z_gd (z_in (((40 : Int32) * a1) + a2) 160) (z_st (z_pt s2 14 (z_x (((40 : Int32) * a1) + a2)) a3) (fun s3 => some ((1 : Int32), s3))))))))))))))
theorem kX6_cell   (a1 : Int32) (a2 : Int32) (a3 : Int32) (σ : z_Mem) (D : Nat) (hD : 3 ≤ D) : z_Call YM mX6_cell D z_i [zR 0, zI a1, zI a2, zI a3] σ (fX6_cell a1 a2 a3 σ) := by
  obtain ⟨D, rfl⟩ : ∃ E, D = E + 1 := ⟨D - 1, by omega⟩
  replace hD : 2 ≤ D := by omega
  refine z_entry (lv := [some (zR 0), some (zI a1), some (zI a2), some (zI a3)]) (by decide) rfl (Nat.le_of_ble_eq_true rfl) rfl ?_
  rw [fX6_cell]
  refine z_iload_n (pc := 0) dX6_cell_0 rfl rfl ?_
  refine z_S1i (pc := 1) dX6_cell_1 lSX6_318 (Nat.le_of_ble_eq_true rfl) (kX6_isSheet a1 σ D (by omega)) (fun r1 s1 => ?_)
  refine z_if_ne (tgt := 10) (pc := 4) dX6_cell_4 (by decide) (fun _ => ?_) (fun _ => ?_)
  · refine z_aload_n (pc := 10) dX6_cell_10 rfl rfl ?_
    refine gfX6_40 (pc := 11) dX6_cell_11 ym_0 w_10_19 rfl ?_
    refine z_iload_n (pc := 14) dX6_cell_14 rfl rfl ?_
    refine z_zald (pc := 15) dX6_cell_15 ym_11 ?_
    refine z_if_ne (tgt := 22) (pc := 16) dX6_cell_16 (by decide) (fun _ => ?_) (fun _ => ?_)
    · refine z_iload_n (pc := 22) dX6_cell_22 rfl rfl ?_
      refine z_i2l (pc := 23) dX6_cell_23 ?_
      refine z_lconst (v := 0) (pc := 24) dX6_cell_24 rfl ?_
      refine z_aload_n (pc := 25) dX6_cell_25 rfl rfl ?_
      refine gfX6_42 (pc := 26) dX6_cell_26 ym_0 w_10_21 rfl ?_
      refine z_iload_n (pc := 29) dX6_cell_29 rfl rfl ?_
      refine z_iald (pc := 30) dX6_cell_30 ym_13 ?_
      refine z_iconst_1 (pc := 31) dX6_cell_31 ?_
      refine z_isub (pc := 32) dX6_cell_32 ?_
      refine z_i2l (pc := 33) dX6_cell_33 ?_
      refine z_S3i (pc := 34) dX6_cell_34 lSX6_70 (Nat.le_of_ble_eq_true rfl) (kX6_in a2.toInt64 (0 : Int64) (((s1.1 13 (z_x a1)) - (1 : Int32)).toInt64) s1 D (by omega)) (fun r2 s2 => ?_)
      refine z_if_ne (tgt := 43) (pc := 37) dX6_cell_37 (by decide) (fun _ => ?_) (fun _ => ?_)
      · refine z_aload_n (pc := 43) dX6_cell_43 rfl rfl ?_
        refine gfX6_43 (pc := 44) dX6_cell_44 ym_0 w_10_22 rfl ?_
        refine z_bipush_40 (pc := 47) dX6_cell_47 ?_
        refine z_iload_n (pc := 49) dX6_cell_49 rfl rfl ?_
        refine z_imul (pc := 50) dX6_cell_50 ?_
        refine z_iload_n (pc := 51) dX6_cell_51 rfl rfl ?_
        refine z_iadd (pc := 52) dX6_cell_52 ?_
        refine z_aload_n (pc := 53) dX6_cell_53 rfl rfl ?_
        refine gfX6_41 (pc := 54) dX6_cell_54 ym_0 w_10_20 rfl ?_
        refine z_iload_n (pc := 57) dX6_cell_57 rfl rfl ?_
        refine z_iald (pc := 58) dX6_cell_58 ym_12 ?_
        refine z_if_ne (tgt := 67) (pc := 59) dX6_cell_59 (by decide) (fun _ => ?_) (fun _ => ?_)
        · refine z_aload_n (pc := 67) dX6_cell_67 rfl rfl ?_
          refine gfX6_41 (pc := 68) dX6_cell_68 ym_0 w_10_20 rfl ?_
          refine z_iload_n (pc := 71) dX6_cell_71 rfl rfl ?_
          refine z_iald (pc := 72) dX6_cell_72 ym_12 ?_
          refine z_iconst_1 (pc := 73) dX6_cell_73 ?_
          refine z_icmp_ne (tgt := 82) (pc := 74) dX6_cell_74 (by decide) (fun _ => ?_) (fun _ => ?_)
          · refine z_iload_n (pc := 82) dX6_cell_82 rfl rfl ?_
            refine z_iast (pc := 83) dX6_cell_83 ym_14 ?_
            refine z_let (fun s3 => ?_)
            refine z_iconst_1 (pc := 84) dX6_cell_84 ?_
            exact z_iret (pc := 85) dX6_cell_85 rfl rfl
          · refine z_iload_n (pc := 77) dX6_cell_77 rfl rfl ?_
            refine z_i2s (pc := 78) dX6_cell_78 ?_
            refine z_goto (tgt := 83) (pc := 79) dX6_cell_79 (by decide) ?_
            refine z_iast (pc := 83) dX6_cell_83 ym_14 ?_
            refine z_let (fun s4 => ?_)
            refine z_iconst_1 (pc := 84) dX6_cell_84 ?_
            exact z_iret (pc := 85) dX6_cell_85 rfl rfl
        · refine z_iload_n (pc := 62) dX6_cell_62 rfl rfl ?_
          refine z_i2b (pc := 63) dX6_cell_63 ?_
          refine z_goto (tgt := 83) (pc := 64) dX6_cell_64 (by decide) ?_
          refine z_iast (pc := 83) dX6_cell_83 ym_14 ?_
          refine z_let (fun s5 => ?_)
          refine z_iconst_1 (pc := 84) dX6_cell_84 ?_
          exact z_iret (pc := 85) dX6_cell_85 rfl rfl
      · refine z_bipush_m12 (pc := 40) dX6_cell_40 ?_
        exact z_iret (pc := 42) dX6_cell_42 rfl rfl
    · refine z_bipush_m11 (pc := 19) dX6_cell_19 ?_
      exact z_iret (pc := 21) dX6_cell_21 rfl rfl
  · refine z_bipush_m2 (pc := 7) dX6_cell_7 ?_
    exact z_iret (pc := 9) dX6_cell_9 rfl rfl
def fX6_copy_121  : Nat → Int32 → Int32 → Int32 → Int32 → Int32 → Int32 → Int32 → z_Mem → Option (Int32 × z_Mem)
  | 0, _, _, _, _, _, _, _, _ => none
  | q + 1, l1, l2, l3, l4, l5, l6, l7, σ => if l5 ≤ l7 then (some (l5, σ)) else (if l6 = 0 then (z_gd (z_in ((((40 : Int32) * l1) + l2) + l7) 160) (z_gd (z_in ((((40 : Int32) * l3) + l4) + l7) 160) (z_st (z_pt σ 14 (z_x ((((40 : Int32) * l3) + l4) + l7)) (σ.1 14 (z_x ((((40 : Int32) * l1) + l2) + l7)))) (fun s3 => fX6_copy_121  q l1 l2 l3 l4 l5 l6 (l7 + 1) s3)))) else (z_gd (z_in ((((40 : Int32) * l1) + l2) + ((l5 - (1 : Int32)) - l7)) 160) (z_gd (z_in ((((40 : Int32) * l3) + l4) + ((l5 - (1 : Int32)) - l7)) 160) (z_st (z_pt σ 14 (z_x ((((40 : Int32) * l3) + l4) + ((l5 - (1 : Int32)) - l7))) (σ.1 14 (z_x ((((40 : Int32) * l1) + l2) + ((l5 - (1 : Int32)) - l7))))) (fun s4 => fX6_copy_121  q l1 l2 l3 l4 l5 l6 (l7 + 1) s4)))))
theorem kX6_copy_121 (D : Nat)   (hD : 2 ≤ D) : ∀ (q : Nat) (l1 : Int32) (l2 : Int32) (l3 : Int32) (l4 : Int32) (l5 : Int32) (l6 : Int32) (l7 : Int32)  (σ : z_Mem), z_Go YM mX6_copy (D + 1) z_i 121 [some (zR 0), some (zI l1), some (zI l2), some (zI l3), some (zI l4), some (zI l5), some (zI l6), some (zI l7), none] [] σ (fX6_copy_121 q l1 l2 l3 l4 l5 l6 l7 σ) := by
  intro q
  induction q with
  | zero => intros; exact z_none
  | succ q ih =>
    intro l1 l2 l3 l4 l5 l6 l7 σ
    rw [fX6_copy_121]
    refine z_iload (pc := 121) dX6_copy_121 rfl ?_
    refine z_iload (pc := 123) dX6_copy_123 rfl ?_
    refine z_icmp_ge (tgt := 182) (pc := 125) dX6_copy_125 (by decide) (fun _ => ?_) (fun _ => ?_)
    · refine z_iload (pc := 182) dX6_copy_182 rfl ?_
      exact z_iret (pc := 184) dX6_copy_184 rfl rfl
    · refine z_iload (pc := 128) dX6_copy_128 rfl ?_
      refine z_if_eq (tgt := 143) (pc := 130) dX6_copy_130 (by decide) (fun _ => ?_) (fun _ => ?_)
      · refine z_iload (pc := 143) dX6_copy_143 rfl ?_
        refine z_istore (pc := 145) dX6_copy_145 (Nat.le_of_ble_eq_true rfl) (z_so9_8 rfl) ?_
        refine z_aload_n (pc := 147) dX6_copy_147 rfl rfl ?_
        refine gfX6_43 (pc := 148) dX6_copy_148 ym_0 w_10_22 rfl ?_
        refine z_bipush_40 (pc := 151) dX6_copy_151 ?_
        refine z_iload_n (pc := 153) dX6_copy_153 rfl rfl ?_
        refine z_imul (pc := 154) dX6_copy_154 ?_
        refine z_iload (pc := 155) dX6_copy_155 rfl ?_
        refine z_iadd (pc := 157) dX6_copy_157 ?_
        refine z_iload (pc := 158) dX6_copy_158 rfl ?_
        refine z_iadd (pc := 160) dX6_copy_160 ?_
        refine z_aload_n (pc := 161) dX6_copy_161 rfl rfl ?_
        refine gfX6_43 (pc := 162) dX6_copy_162 ym_0 w_10_22 rfl ?_
        refine z_bipush_40 (pc := 165) dX6_copy_165 ?_
        refine z_iload_n (pc := 167) dX6_copy_167 rfl rfl ?_
        refine z_imul (pc := 168) dX6_copy_168 ?_
        refine z_iload_n (pc := 169) dX6_copy_169 rfl rfl ?_
        refine z_iadd (pc := 170) dX6_copy_170 ?_
        refine z_iload (pc := 171) dX6_copy_171 rfl ?_
        refine z_iadd (pc := 173) dX6_copy_173 ?_
        refine z_iald (pc := 174) dX6_copy_174 ym_14 ?_
        refine z_iast (pc := 175) dX6_copy_175 ym_14 ?_
        refine z_let (fun s3 => ?_)
        refine z_iinc (y := 1) (pc := 176) dX6_copy_176 rfl (by decide) (Nat.le_of_ble_eq_true rfl) (z_so9_7 rfl) ?_
        refine z_goto (tgt := 121) (pc := 179) dX6_copy_179 (by decide) ?_
        exact z_weak (lv' := [some (zR 0), some (zI l1), some (zI l2), some (zI l3), some (zI l4), some (zI l5), some (zI l6), some (zI (l7 + 1)), none]) (z_sub_ok ⟨rfl, rfl, rfl, rfl, rfl, rfl, rfl, rfl, trivial⟩) (ih l1 l2 l3 l4 l5 l6 (l7 + 1) s3)
      · refine z_iload (pc := 133) dX6_copy_133 rfl ?_
        refine z_iconst_1 (pc := 135) dX6_copy_135 ?_
        refine z_isub (pc := 136) dX6_copy_136 ?_
        refine z_iload (pc := 137) dX6_copy_137 rfl ?_
        refine z_isub (pc := 139) dX6_copy_139 ?_
        refine z_goto (tgt := 145) (pc := 140) dX6_copy_140 (by decide) ?_
        refine z_istore (pc := 145) dX6_copy_145 (Nat.le_of_ble_eq_true rfl) (z_so9_8 rfl) ?_
        refine z_aload_n (pc := 147) dX6_copy_147 rfl rfl ?_
        refine gfX6_43 (pc := 148) dX6_copy_148 ym_0 w_10_22 rfl ?_
        refine z_bipush_40 (pc := 151) dX6_copy_151 ?_
        refine z_iload_n (pc := 153) dX6_copy_153 rfl rfl ?_
        refine z_imul (pc := 154) dX6_copy_154 ?_
        refine z_iload (pc := 155) dX6_copy_155 rfl ?_
        refine z_iadd (pc := 157) dX6_copy_157 ?_
        refine z_iload (pc := 158) dX6_copy_158 rfl ?_
        refine z_iadd (pc := 160) dX6_copy_160 ?_
        refine z_aload_n (pc := 161) dX6_copy_161 rfl rfl ?_
        refine gfX6_43 (pc := 162) dX6_copy_162 ym_0 w_10_22 rfl ?_
        refine z_bipush_40 (pc := 165) dX6_copy_165 ?_
        refine z_iload_n (pc := 167) dX6_copy_167 rfl rfl ?_
        refine z_imul (pc := 168) dX6_copy_168 ?_
        refine z_iload_n (pc := 169) dX6_copy_169 rfl rfl ?_
        refine z_iadd (pc := 170) dX6_copy_170 ?_
        refine z_iload (pc := 171) dX6_copy_171 rfl ?_
        refine z_iadd (pc := 173) dX6_copy_173 ?_
        refine z_iald (pc := 174) dX6_copy_174 ym_14 ?_
        refine z_iast (pc := 175) dX6_copy_175 ym_14 ?_
        refine z_let (fun s4 => ?_)
        refine z_iinc (y := 1) (pc := 176) dX6_copy_176 rfl (by decide) (Nat.le_of_ble_eq_true rfl) (z_so9_7 rfl) ?_
        refine z_goto (tgt := 121) (pc := 179) dX6_copy_179 (by decide) ?_
        exact z_weak (lv' := [some (zR 0), some (zI l1), some (zI l2), some (zI l3), some (zI l4), some (zI l5), some (zI l6), some (zI (l7 + 1)), none]) (z_sub_ok ⟨rfl, rfl, rfl, rfl, rfl, rfl, rfl, rfl, trivial⟩) (ih l1 l2 l3 l4 l5 l6 (l7 + 1) s4)
def fX6_copy  (a1 : Int32) (a2 : Int32) (a3 : Int32) (a4 : Int32) (a5 : Int32) (σ : z_Mem) : Option (Int32 × z_Mem) :=
  z_bd (fX6_isSheet a1 σ) (fun r1 s1 => if r1 = 0 then (some ((-2 : Int32), s1)) else (z_bd (fX6_isSheet a3 s1) (fun r2 s2 => if r2 = 0 then (some ((-2 : Int32), s2)) else (z_gd (z_in a1 4) (if s2.1 11 (z_x a1) = 0 then (some ((-11 : Int32), s2)) else (z_gd (z_in a3 4) (if s2.1 11 (z_x a3) = 0 then (some ((-11 : Int32), s2)) else (z_gd (z_in a1 4) (z_gd (z_in a3 4) (if s2.1 12 (z_x a1) = s2.1 12 (z_x a3) then (if a5 < 0 then (some ((-12 : Int32), s2)) else (if a2 < 0 then (some ((-12 : Int32), s2)) else (if a4 < 0 then (some ((-12 : Int32), s2)) else (z_gd (z_in a1 4) (if (s2.1 13 (z_x a1)) - a5 < a2 then (some ((-12 : Int32), s2)) else (z_gd (z_in a3 4) (if a4 ≤ (s2.1 13 (z_x a3)) - a5 then (if a1 = a3 then (if a4 ≤ a2 then (fX6_copy_121 z_FU a1 a2 a3 a4 a5 (0 : Int32) (0 : Int32) s2) else (fX6_copy_121 z_FU a1 a2 a3 a4 a5 (1 : Int32) (0 : Int32) s2)) else (fX6_copy_121 z_FU a1 a2 a3 a4 a5 (0 : Int32) (0 : Int32) s2)) else (some ((-12 : Int32), s2))))))))) else (some ((-13 : Int32), s2))))))))))))
theorem kX6_copy   (a1 : Int32) (a2 : Int32) (a3 : Int32) (a4 : Int32) (a5 : Int32) (σ : z_Mem) (D : Nat) (hD : 3 ≤ D) : z_Call YM mX6_copy D z_i [zR 0, zI a1, zI a2, zI a3, zI a4, zI a5] σ (fX6_copy a1 a2 a3 a4 a5 σ) := by
  obtain ⟨D, rfl⟩ : ∃ E, D = E + 1 := ⟨D - 1, by omega⟩
  replace hD : 2 ≤ D := by omega
  refine z_entry (lv := [some (zR 0), some (zI a1), some (zI a2), some (zI a3), some (zI a4), some (zI a5), none, none, none]) (by decide) rfl (Nat.le_of_ble_eq_true rfl) rfl ?_
  rw [fX6_copy]
  refine z_iload_n (pc := 0) dX6_copy_0 rfl rfl ?_
  refine z_S1i (pc := 1) dX6_copy_1 lSX6_318 (Nat.le_of_ble_eq_true rfl) (kX6_isSheet a1 σ D (by omega)) (fun r1 s1 => ?_)
  refine z_if_eq (tgt := 14) (pc := 4) dX6_copy_4 (by decide) (fun _ => ?_) (fun _ => ?_)
  · refine z_bipush_m2 (pc := 14) dX6_copy_14 ?_
    exact z_iret (pc := 16) dX6_copy_16 rfl rfl
  · refine z_iload_n (pc := 7) dX6_copy_7 rfl rfl ?_
    refine z_S1i (pc := 8) dX6_copy_8 lSX6_318 (Nat.le_of_ble_eq_true rfl) (kX6_isSheet a3 s1 D (by omega)) (fun r2 s2 => ?_)
    refine z_if_ne (tgt := 17) (pc := 11) dX6_copy_11 (by decide) (fun _ => ?_) (fun _ => ?_)
    · refine z_aload_n (pc := 17) dX6_copy_17 rfl rfl ?_
      refine gfX6_40 (pc := 18) dX6_copy_18 ym_0 w_10_19 rfl ?_
      refine z_iload_n (pc := 21) dX6_copy_21 rfl rfl ?_
      refine z_zald (pc := 22) dX6_copy_22 ym_11 ?_
      refine z_if_eq (tgt := 35) (pc := 23) dX6_copy_23 (by decide) (fun _ => ?_) (fun _ => ?_)
      · refine z_bipush_m11 (pc := 35) dX6_copy_35 ?_
        exact z_iret (pc := 37) dX6_copy_37 rfl rfl
      · refine z_aload_n (pc := 26) dX6_copy_26 rfl rfl ?_
        refine gfX6_40 (pc := 27) dX6_copy_27 ym_0 w_10_19 rfl ?_
        refine z_iload_n (pc := 30) dX6_copy_30 rfl rfl ?_
        refine z_zald (pc := 31) dX6_copy_31 ym_11 ?_
        refine z_if_ne (tgt := 38) (pc := 32) dX6_copy_32 (by decide) (fun _ => ?_) (fun _ => ?_)
        · refine z_aload_n (pc := 38) dX6_copy_38 rfl rfl ?_
          refine gfX6_41 (pc := 39) dX6_copy_39 ym_0 w_10_20 rfl ?_
          refine z_iload_n (pc := 42) dX6_copy_42 rfl rfl ?_
          refine z_iald (pc := 43) dX6_copy_43 ym_12 ?_
          refine z_aload_n (pc := 44) dX6_copy_44 rfl rfl ?_
          refine gfX6_41 (pc := 45) dX6_copy_45 ym_0 w_10_20 rfl ?_
          refine z_iload_n (pc := 48) dX6_copy_48 rfl rfl ?_
          refine z_iald (pc := 49) dX6_copy_49 ym_12 ?_
          refine z_icmp_eq (tgt := 56) (pc := 50) dX6_copy_50 (by decide) (fun _ => ?_) (fun _ => ?_)
          · refine z_iload (pc := 56) dX6_copy_56 rfl ?_
            refine z_if_lt (tgt := 97) (pc := 58) dX6_copy_58 (by decide) (fun _ => ?_) (fun _ => ?_)
            · refine z_bipush_m12 (pc := 97) dX6_copy_97 ?_
              exact z_iret (pc := 99) dX6_copy_99 rfl rfl
            · refine z_iload_n (pc := 61) dX6_copy_61 rfl rfl ?_
              refine z_if_lt (tgt := 97) (pc := 62) dX6_copy_62 (by decide) (fun _ => ?_) (fun _ => ?_)
              · refine z_bipush_m12 (pc := 97) dX6_copy_97 ?_
                exact z_iret (pc := 99) dX6_copy_99 rfl rfl
              · refine z_iload (pc := 65) dX6_copy_65 rfl ?_
                refine z_if_lt (tgt := 97) (pc := 67) dX6_copy_67 (by decide) (fun _ => ?_) (fun _ => ?_)
                · refine z_bipush_m12 (pc := 97) dX6_copy_97 ?_
                  exact z_iret (pc := 99) dX6_copy_99 rfl rfl
                · refine z_iload_n (pc := 70) dX6_copy_70 rfl rfl ?_
                  refine z_aload_n (pc := 71) dX6_copy_71 rfl rfl ?_
                  refine gfX6_42 (pc := 72) dX6_copy_72 ym_0 w_10_21 rfl ?_
                  refine z_iload_n (pc := 75) dX6_copy_75 rfl rfl ?_
                  refine z_iald (pc := 76) dX6_copy_76 ym_13 ?_
                  refine z_iload (pc := 77) dX6_copy_77 rfl ?_
                  refine z_isub (pc := 79) dX6_copy_79 ?_
                  refine z_icmp_gt (tgt := 97) (pc := 80) dX6_copy_80 (by decide) (fun _ => ?_) (fun _ => ?_)
                  · refine z_bipush_m12 (pc := 97) dX6_copy_97 ?_
                    exact z_iret (pc := 99) dX6_copy_99 rfl rfl
                  · refine z_iload (pc := 83) dX6_copy_83 rfl ?_
                    refine z_aload_n (pc := 85) dX6_copy_85 rfl rfl ?_
                    refine gfX6_42 (pc := 86) dX6_copy_86 ym_0 w_10_21 rfl ?_
                    refine z_iload_n (pc := 89) dX6_copy_89 rfl rfl ?_
                    refine z_iald (pc := 90) dX6_copy_90 ym_13 ?_
                    refine z_iload (pc := 91) dX6_copy_91 rfl ?_
                    refine z_isub (pc := 93) dX6_copy_93 ?_
                    refine z_icmp_le (tgt := 100) (pc := 94) dX6_copy_94 (by decide) (fun _ => ?_) (fun _ => ?_)
                    · refine z_iload_n (pc := 100) dX6_copy_100 rfl rfl ?_
                      refine z_iload_n (pc := 101) dX6_copy_101 rfl rfl ?_
                      refine z_icmp_ne (tgt := 115) (pc := 102) dX6_copy_102 (by decide) (fun _ => ?_) (fun _ => ?_)
                      · refine z_iconst_0 (pc := 115) dX6_copy_115 ?_
                        refine z_istore (pc := 116) dX6_copy_116 (Nat.le_of_ble_eq_true rfl) (z_so9_6 rfl) ?_
                        refine z_iconst_0 (pc := 118) dX6_copy_118 ?_
                        refine z_istore (pc := 119) dX6_copy_119 (Nat.le_of_ble_eq_true rfl) (z_so9_7 rfl) ?_
                        exact kX6_copy_121 D  hD z_FU a1 a2 a3 a4 a5 (0 : Int32) (0 : Int32) s2
                      · refine z_iload_n (pc := 105) dX6_copy_105 rfl rfl ?_
                        refine z_iload (pc := 106) dX6_copy_106 rfl ?_
                        refine z_icmp_ge (tgt := 115) (pc := 108) dX6_copy_108 (by decide) (fun _ => ?_) (fun _ => ?_)
                        · refine z_iconst_0 (pc := 115) dX6_copy_115 ?_
                          refine z_istore (pc := 116) dX6_copy_116 (Nat.le_of_ble_eq_true rfl) (z_so9_6 rfl) ?_
                          refine z_iconst_0 (pc := 118) dX6_copy_118 ?_
                          refine z_istore (pc := 119) dX6_copy_119 (Nat.le_of_ble_eq_true rfl) (z_so9_7 rfl) ?_
                          exact kX6_copy_121 D  hD z_FU a1 a2 a3 a4 a5 (0 : Int32) (0 : Int32) s2
                        · refine z_iconst_1 (pc := 111) dX6_copy_111 ?_
                          refine z_goto (tgt := 116) (pc := 112) dX6_copy_112 (by decide) ?_
                          refine z_istore (pc := 116) dX6_copy_116 (Nat.le_of_ble_eq_true rfl) (z_so9_6 rfl) ?_
                          refine z_iconst_0 (pc := 118) dX6_copy_118 ?_
                          refine z_istore (pc := 119) dX6_copy_119 (Nat.le_of_ble_eq_true rfl) (z_so9_7 rfl) ?_
                          exact kX6_copy_121 D  hD z_FU a1 a2 a3 a4 a5 (1 : Int32) (0 : Int32) s2
                    · refine z_bipush_m12 (pc := 97) dX6_copy_97 ?_
                      exact z_iret (pc := 99) dX6_copy_99 rfl rfl
          · refine z_bipush_m13 (pc := 53) dX6_copy_53 ?_
            exact z_iret (pc := 55) dX6_copy_55 rfl rfl
        · refine z_bipush_m11 (pc := 35) dX6_copy_35 ?_
          exact z_iret (pc := 37) dX6_copy_37 rfl rfl
    · refine z_bipush_m2 (pc := 14) dX6_copy_14 ?_
      exact z_iret (pc := 16) dX6_copy_16 rfl rfl
def fX6_chain_75  : Nat → Int32 → Int32 → Int32 → Int32 → Int32 → z_Mem → Option (Int32 × z_Mem)
  | 0, _, _, _, _, _, _ => none
  | q + 1, l1, l3, l4, l5, l6, σ => if l4 ≤ l6 then (some (l5, σ)) else (if l3 < 0 then (some ((-12 : Int32), σ)) else (z_gd (z_in l1 4) (if l3 ≤ ((σ.1 13 (z_x l1)) - ((3 : Int32) * l6)) - (3 : Int32) then (z_gd (z_in ((((40 : Int32) * l1) + l3) + ((3 : Int32) * l6)) 160) (z_gd (z_in (((((40 : Int32) * l1) + l3) + ((3 : Int32) * l6)) + (1 : Int32)) 160) (z_gd (z_in (((((40 : Int32) * l1) + l3) + ((3 : Int32) * l6)) + (2 : Int32)) 160) (z_bd (fX6_man (σ.1 14 (z_x ((((40 : Int32) * l1) + l3) + ((3 : Int32) * l6)))) (σ.1 14 (z_x (((((40 : Int32) * l1) + l3) + ((3 : Int32) * l6)) + (1 : Int32)))) (σ.1 14 (z_x (((((40 : Int32) * l1) + l3) + ((3 : Int32) * l6)) + (2 : Int32)))) σ) (fun r4 s4 => if r4 < 0 then (fX6_chain_75  q l1 l3 l4 (l5 + (0 : Int32)) (l6 + 1) s4) else (fX6_chain_75  q l1 l3 l4 (l5 + (1 : Int32)) (l6 + 1) s4)))))) else (some ((-12 : Int32), σ)))))
theorem kX6_chain_75 (D : Nat)   (hD : 2 ≤ D) : ∀ (q : Nat) (l1 : Int32) (l3 : Int32) (l4 : Int32) (l5 : Int32) (l6 : Int32)  (σ : z_Mem), z_Go YM mX6_chain (D + 1) z_i 75 [some (zR 0), some (zI l1), none, some (zI l3), some (zI l4), some (zI l5), some (zI l6), none] [] σ (fX6_chain_75 q l1 l3 l4 l5 l6 σ) := by
  intro q
  induction q with
  | zero => intros; exact z_none
  | succ q ih =>
    intro l1 l3 l4 l5 l6 σ
    rw [fX6_chain_75]
    refine z_iload (pc := 75) dX6_chain_75 rfl ?_
    refine z_iload (pc := 77) dX6_chain_77 rfl ?_
    refine z_icmp_ge (tgt := 167) (pc := 79) dX6_chain_79 (by decide) (fun _ => ?_) (fun _ => ?_)
    · refine z_iload (pc := 167) dX6_chain_167 rfl ?_
      exact z_iret (pc := 169) dX6_chain_169 rfl rfl
    · refine z_iload_n (pc := 82) dX6_chain_82 rfl rfl ?_
      refine z_if_lt (tgt := 103) (pc := 83) dX6_chain_83 (by decide) (fun _ => ?_) (fun _ => ?_)
      · refine z_bipush_m12 (pc := 103) dX6_chain_103 ?_
        exact z_iret (pc := 105) dX6_chain_105 rfl rfl
      · refine z_iload_n (pc := 86) dX6_chain_86 rfl rfl ?_
        refine z_aload_n (pc := 87) dX6_chain_87 rfl rfl ?_
        refine gfX6_42 (pc := 88) dX6_chain_88 ym_0 w_10_21 rfl ?_
        refine z_iload_n (pc := 91) dX6_chain_91 rfl rfl ?_
        refine z_iald (pc := 92) dX6_chain_92 ym_13 ?_
        refine z_iconst_3 (pc := 93) dX6_chain_93 ?_
        refine z_iload (pc := 94) dX6_chain_94 rfl ?_
        refine z_imul (pc := 96) dX6_chain_96 ?_
        refine z_isub (pc := 97) dX6_chain_97 ?_
        refine z_iconst_3 (pc := 98) dX6_chain_98 ?_
        refine z_isub (pc := 99) dX6_chain_99 ?_
        refine z_icmp_le (tgt := 106) (pc := 100) dX6_chain_100 (by decide) (fun _ => ?_) (fun _ => ?_)
        · refine z_bipush_40 (pc := 106) dX6_chain_106 ?_
          refine z_iload_n (pc := 108) dX6_chain_108 rfl rfl ?_
          refine z_imul (pc := 109) dX6_chain_109 ?_
          refine z_iload_n (pc := 110) dX6_chain_110 rfl rfl ?_
          refine z_iadd (pc := 111) dX6_chain_111 ?_
          refine z_iconst_3 (pc := 112) dX6_chain_112 ?_
          refine z_iload (pc := 113) dX6_chain_113 rfl ?_
          refine z_imul (pc := 115) dX6_chain_115 ?_
          refine z_iadd (pc := 116) dX6_chain_116 ?_
          refine z_istore (pc := 117) dX6_chain_117 (Nat.le_of_ble_eq_true rfl) (z_so8_7 rfl) ?_
          refine z_iload (pc := 119) dX6_chain_119 rfl ?_
          refine z_aload_n (pc := 121) dX6_chain_121 rfl rfl ?_
          refine z_aload_n (pc := 122) dX6_chain_122 rfl rfl ?_
          refine gfX6_43 (pc := 123) dX6_chain_123 ym_0 w_10_22 rfl ?_
          refine z_iload (pc := 126) dX6_chain_126 rfl ?_
          refine z_iald (pc := 128) dX6_chain_128 ym_14 ?_
          refine z_aload_n (pc := 129) dX6_chain_129 rfl rfl ?_
          refine gfX6_43 (pc := 130) dX6_chain_130 ym_0 w_10_22 rfl ?_
          refine z_iload (pc := 133) dX6_chain_133 rfl ?_
          refine z_iconst_1 (pc := 135) dX6_chain_135 ?_
          refine z_iadd (pc := 136) dX6_chain_136 ?_
          refine z_iald (pc := 137) dX6_chain_137 ym_14 ?_
          refine z_aload_n (pc := 138) dX6_chain_138 rfl rfl ?_
          refine gfX6_43 (pc := 139) dX6_chain_139 ym_0 w_10_22 rfl ?_
          refine z_iload (pc := 142) dX6_chain_142 rfl ?_
          refine z_iconst_2 (pc := 144) dX6_chain_144 ?_
          refine z_iadd (pc := 145) dX6_chain_145 ?_
          refine z_iald (pc := 146) dX6_chain_146 ym_14 ?_
          refine z_V3i (pc := 147) dX6_chain_147 lVX6_349 ym_0 rfl (Nat.le_of_ble_eq_true rfl) (kX6_man (σ.1 14 (z_x ((((40 : Int32) * l1) + l3) + ((3 : Int32) * l6)))) (σ.1 14 (z_x (((((40 : Int32) * l1) + l3) + ((3 : Int32) * l6)) + (1 : Int32)))) (σ.1 14 (z_x (((((40 : Int32) * l1) + l3) + ((3 : Int32) * l6)) + (2 : Int32)))) σ D (by omega)) (fun r4 s4 => ?_)
          refine z_if_lt (tgt := 157) (pc := 150) dX6_chain_150 (by decide) (fun _ => ?_) (fun _ => ?_)
          · refine z_iconst_0 (pc := 157) dX6_chain_157 ?_
            refine z_iadd (pc := 158) dX6_chain_158 ?_
            refine z_istore (pc := 159) dX6_chain_159 (Nat.le_of_ble_eq_true rfl) (z_so8_5 rfl) ?_
            refine z_iinc (y := 1) (pc := 161) dX6_chain_161 rfl (by decide) (Nat.le_of_ble_eq_true rfl) (z_so8_6 rfl) ?_
            refine z_goto (tgt := 75) (pc := 164) dX6_chain_164 (by decide) ?_
            exact z_weak (lv' := [some (zR 0), some (zI l1), none, some (zI l3), some (zI l4), some (zI (l5 + (0 : Int32))), some (zI (l6 + 1)), none]) (z_sub_ok ⟨rfl, rfl, rfl, rfl, rfl, rfl, trivial⟩) (ih l1 l3 l4 (l5 + (0 : Int32)) (l6 + 1) s4)
          · refine z_iconst_1 (pc := 153) dX6_chain_153 ?_
            refine z_goto (tgt := 158) (pc := 154) dX6_chain_154 (by decide) ?_
            refine z_iadd (pc := 158) dX6_chain_158 ?_
            refine z_istore (pc := 159) dX6_chain_159 (Nat.le_of_ble_eq_true rfl) (z_so8_5 rfl) ?_
            refine z_iinc (y := 1) (pc := 161) dX6_chain_161 rfl (by decide) (Nat.le_of_ble_eq_true rfl) (z_so8_6 rfl) ?_
            refine z_goto (tgt := 75) (pc := 164) dX6_chain_164 (by decide) ?_
            exact z_weak (lv' := [some (zR 0), some (zI l1), none, some (zI l3), some (zI l4), some (zI (l5 + (1 : Int32))), some (zI (l6 + 1)), none]) (z_sub_ok ⟨rfl, rfl, rfl, rfl, rfl, rfl, trivial⟩) (ih l1 l3 l4 (l5 + (1 : Int32)) (l6 + 1) s4)
        · refine z_bipush_m12 (pc := 103) dX6_chain_103 ?_
          exact z_iret (pc := 105) dX6_chain_105 rfl rfl
def fX6_chain  (a1 : Int32) (a2 : Int32) (a3 : Int32) (a4 : Int32) (σ : z_Mem) : Option (Int32 × z_Mem) :=
  z_bd (fX6_isSheet a1 σ) (fun r1 s1 => if r1 = 0 then (some ((-2 : Int32), s1)) else (z_bd (fX6_in a2.toInt64 (0 : Int64) (2 : Int64) s1) (fun r2 s2 => if r2 = 0 then (some ((-2 : Int32), s2)) else (z_bd (fX6_in a4.toInt64 (0 : Int64) (6 : Int64) s2) (fun r3 s3 => if r3 = 0 then (some ((-2 : Int32), s3)) else (z_gd (z_in a1 4) (if s3.1 11 (z_x a1) = 0 then (z_gd (z_in a1 4) (if s3.1 11 (z_x a1) = 0 then (some ((-11 : Int32), s3)) else (fX6_chain_75 z_FU a1 a3 a4 (0 : Int32) (0 : Int32) s3))) else (z_gd (z_in a1 4) (if s3.1 12 (z_x a1) = a2 then (z_gd (z_in a1 4) (if s3.1 11 (z_x a1) = 0 then (some ((-11 : Int32), s3)) else (fX6_chain_75 z_FU a1 a3 a4 (0 : Int32) (0 : Int32) s3))) else (some ((-13 : Int32), s3)))))))))))
theorem kX6_chain   (a1 : Int32) (a2 : Int32) (a3 : Int32) (a4 : Int32) (σ : z_Mem) (D : Nat) (hD : 3 ≤ D) : z_Call YM mX6_chain D z_i [zR 0, zI a1, zI a2, zI a3, zI a4] σ (fX6_chain a1 a2 a3 a4 σ) := by
  obtain ⟨D, rfl⟩ : ∃ E, D = E + 1 := ⟨D - 1, by omega⟩
  replace hD : 2 ≤ D := by omega
  refine z_entry (lv := [some (zR 0), some (zI a1), some (zI a2), some (zI a3), some (zI a4), none, none, none]) (by decide) rfl (Nat.le_of_ble_eq_true rfl) rfl ?_
  rw [fX6_chain]
  refine z_iload_n (pc := 0) dX6_chain_0 rfl rfl ?_
  refine z_S1i (pc := 1) dX6_chain_1 lSX6_318 (Nat.le_of_ble_eq_true rfl) (kX6_isSheet a1 σ D (by omega)) (fun r1 s1 => ?_)
  refine z_if_eq (tgt := 32) (pc := 4) dX6_chain_4 (by decide) (fun _ => ?_) (fun _ => ?_)
  · refine z_bipush_m2 (pc := 32) dX6_chain_32 ?_
    exact z_iret (pc := 34) dX6_chain_34 rfl rfl
  · refine z_iload_n (pc := 7) dX6_chain_7 rfl rfl ?_
    refine z_i2l (pc := 8) dX6_chain_8 ?_
    refine z_lconst (v := 0) (pc := 9) dX6_chain_9 rfl ?_
    refine z_ldc2 (v := 2) (pc := 10) dX6_chain_10 w_28_14 ?_
    refine z_S3i (pc := 13) dX6_chain_13 lSX6_70 (Nat.le_of_ble_eq_true rfl) (kX6_in a2.toInt64 (0 : Int64) (2 : Int64) s1 D (by omega)) (fun r2 s2 => ?_)
    refine z_if_eq (tgt := 32) (pc := 16) dX6_chain_16 (by decide) (fun _ => ?_) (fun _ => ?_)
    · refine z_bipush_m2 (pc := 32) dX6_chain_32 ?_
      exact z_iret (pc := 34) dX6_chain_34 rfl rfl
    · refine z_iload (pc := 19) dX6_chain_19 rfl ?_
      refine z_i2l (pc := 21) dX6_chain_21 ?_
      refine z_lconst (v := 0) (pc := 22) dX6_chain_22 rfl ?_
      refine z_ldc2 (v := 6) (pc := 23) dX6_chain_23 w_40_19 ?_
      refine z_S3i (pc := 26) dX6_chain_26 lSX6_70 (Nat.le_of_ble_eq_true rfl) (kX6_in a4.toInt64 (0 : Int64) (6 : Int64) s2 D (by omega)) (fun r3 s3 => ?_)
      refine z_if_ne (tgt := 35) (pc := 29) dX6_chain_29 (by decide) (fun _ => ?_) (fun _ => ?_)
      · refine z_aload_n (pc := 35) dX6_chain_35 rfl rfl ?_
        refine gfX6_40 (pc := 36) dX6_chain_36 ym_0 w_10_19 rfl ?_
        refine z_iload_n (pc := 39) dX6_chain_39 rfl rfl ?_
        refine z_zald (pc := 40) dX6_chain_40 ym_11 ?_
        refine z_if_eq (tgt := 57) (pc := 41) dX6_chain_41 (by decide) (fun _ => ?_) (fun _ => ?_)
        · refine z_aload_n (pc := 57) dX6_chain_57 rfl rfl ?_
          refine gfX6_40 (pc := 58) dX6_chain_58 ym_0 w_10_19 rfl ?_
          refine z_iload_n (pc := 61) dX6_chain_61 rfl rfl ?_
          refine z_zald (pc := 62) dX6_chain_62 ym_11 ?_
          refine z_if_ne (tgt := 69) (pc := 63) dX6_chain_63 (by decide) (fun _ => ?_) (fun _ => ?_)
          · refine z_iconst_0 (pc := 69) dX6_chain_69 ?_
            refine z_istore (pc := 70) dX6_chain_70 (Nat.le_of_ble_eq_true rfl) (z_so8_5 rfl) ?_
            refine z_iconst_0 (pc := 72) dX6_chain_72 ?_
            refine z_istore (pc := 73) dX6_chain_73 (Nat.le_of_ble_eq_true rfl) (z_so8_6 rfl) ?_
            exact z_weak (lv' := [some (zR 0), some (zI a1), none, some (zI a3), some (zI a4), some (zI (0 : Int32)), some (zI (0 : Int32)), none]) (z_sub_ok ⟨rfl, rfl, rfl, rfl, rfl, rfl, trivial⟩) (kX6_chain_75 D  hD z_FU a1 a3 a4 (0 : Int32) (0 : Int32) s3)
          · refine z_bipush_m11 (pc := 66) dX6_chain_66 ?_
            exact z_iret (pc := 68) dX6_chain_68 rfl rfl
        · refine z_aload_n (pc := 44) dX6_chain_44 rfl rfl ?_
          refine gfX6_41 (pc := 45) dX6_chain_45 ym_0 w_10_20 rfl ?_
          refine z_iload_n (pc := 48) dX6_chain_48 rfl rfl ?_
          refine z_iald (pc := 49) dX6_chain_49 ym_12 ?_
          refine z_iload_n (pc := 50) dX6_chain_50 rfl rfl ?_
          refine z_icmp_eq (tgt := 57) (pc := 51) dX6_chain_51 (by decide) (fun _ => ?_) (fun _ => ?_)
          · refine z_aload_n (pc := 57) dX6_chain_57 rfl rfl ?_
            refine gfX6_40 (pc := 58) dX6_chain_58 ym_0 w_10_19 rfl ?_
            refine z_iload_n (pc := 61) dX6_chain_61 rfl rfl ?_
            refine z_zald (pc := 62) dX6_chain_62 ym_11 ?_
            refine z_if_ne (tgt := 69) (pc := 63) dX6_chain_63 (by decide) (fun _ => ?_) (fun _ => ?_)
            · refine z_iconst_0 (pc := 69) dX6_chain_69 ?_
              refine z_istore (pc := 70) dX6_chain_70 (Nat.le_of_ble_eq_true rfl) (z_so8_5 rfl) ?_
              refine z_iconst_0 (pc := 72) dX6_chain_72 ?_
              refine z_istore (pc := 73) dX6_chain_73 (Nat.le_of_ble_eq_true rfl) (z_so8_6 rfl) ?_
              exact z_weak (lv' := [some (zR 0), some (zI a1), none, some (zI a3), some (zI a4), some (zI (0 : Int32)), some (zI (0 : Int32)), none]) (z_sub_ok ⟨rfl, rfl, rfl, rfl, rfl, rfl, trivial⟩) (kX6_chain_75 D  hD z_FU a1 a3 a4 (0 : Int32) (0 : Int32) s3)
            · refine z_bipush_m11 (pc := 66) dX6_chain_66 ?_
              exact z_iret (pc := 68) dX6_chain_68 rfl rfl
          · refine z_bipush_m13 (pc := 54) dX6_chain_54 ?_
            exact z_iret (pc := 56) dX6_chain_56 rfl rfl
      · refine z_bipush_m2 (pc := 32) dX6_chain_32 ?_
        exact z_iret (pc := 34) dX6_chain_34 rfl rfl
def fX6_over  (a1 : Int32) (σ : z_Mem) : Option (Int32 × z_Mem) :=
  if a1 = 0 then (some ((-1 : Int32), σ)) else (if a1 = (3 : Int32) then (some ((1 : Int32), σ)) else (if a1 = (4 : Int32) then (some ((2 : Int32), σ)) else (some ((0 : Int32), σ))))
theorem kX6_over   (a1 : Int32) (σ : z_Mem) (D : Nat) (hD : 1 ≤ D) : z_Call YM mX6_over D z_i [zI a1] σ (fX6_over a1 σ) := by
  obtain ⟨D, rfl⟩ : ∃ E, D = E + 1 := ⟨D - 1, by omega⟩
  replace hD : 0 ≤ D := by omega
  refine z_entry (lv := [some (zI a1)]) (by decide) rfl (Nat.le_of_ble_eq_true rfl) rfl ?_
  rw [fX6_over]
  refine z_iload_n (pc := 0) dX6_over_0 rfl rfl ?_
  refine z_if_ne (tgt := 8) (pc := 1) dX6_over_1 (by decide) (fun _ => ?_) (fun _ => ?_)
  · refine z_iload_n (pc := 8) dX6_over_8 rfl rfl ?_
    refine z_iconst_3 (pc := 9) dX6_over_9 ?_
    refine z_icmp_ne (tgt := 17) (pc := 10) dX6_over_10 (by decide) (fun _ => ?_) (fun _ => ?_)
    · refine z_iload_n (pc := 17) dX6_over_17 rfl rfl ?_
      refine z_iconst_4 (pc := 18) dX6_over_18 ?_
      refine z_icmp_ne (tgt := 26) (pc := 19) dX6_over_19 (by decide) (fun _ => ?_) (fun _ => ?_)
      · refine z_iconst_0 (pc := 26) dX6_over_26 ?_
        exact z_iret (pc := 27) dX6_over_27 rfl rfl
      · refine z_iconst_2 (pc := 22) dX6_over_22 ?_
        refine z_goto (tgt := 27) (pc := 23) dX6_over_23 (by decide) ?_
        exact z_iret (pc := 27) dX6_over_27 rfl rfl
    · refine z_iconst_1 (pc := 13) dX6_over_13 ?_
      refine z_goto (tgt := 27) (pc := 14) dX6_over_14 (by decide) ?_
      exact z_iret (pc := 27) dX6_over_27 rfl rfl
  · refine z_iconst_m1 (pc := 4) dX6_over_4 ?_
    refine z_goto (tgt := 27) (pc := 5) dX6_over_5 (by decide) ?_
    exact z_iret (pc := 27) dX6_over_27 rfl rfl
def fX6_taken_37  : Nat → Int32 → Int32 → Int32 → z_Mem → Option (Int32 × z_Mem)
  | 0, _, _, _, _ => none
  | q + 1, l1, l2, l3, σ => if l3 = (-1 : Int32) then (if l3 = l2 then (z_gd (z_in ((3 : Int32) * l1) 18) (some (σ.1 4 (z_x ((3 : Int32) * l1)), σ))) else (some ((-13 : Int32), σ))) else (if l3 = l2 then (if l3 = l2 then (z_gd (z_in ((3 : Int32) * l1) 18) (some (σ.1 4 (z_x ((3 : Int32) * l1)), σ))) else (some ((-13 : Int32), σ))) else (z_bd (fX6_over l3 σ) (fun r3 s3 => fX6_taken_37  q l1 l2 r3 s3)))
theorem kX6_taken_37 (D : Nat)   (hD : 2 ≤ D) : ∀ (q : Nat) (l1 : Int32) (l2 : Int32) (l3 : Int32)  (σ : z_Mem), z_Go YM mX6_taken (D + 1) z_i 37 [some (zR 0), some (zI l1), some (zI l2), some (zI l3)] [] σ (fX6_taken_37 q l1 l2 l3 σ) := by
  intro q
  induction q with
  | zero => intros; exact z_none
  | succ q ih =>
    intro l1 l2 l3 σ
    rw [fX6_taken_37]
    refine z_iload_n (pc := 37) dX6_taken_37 rfl rfl ?_
    refine z_iconst_m1 (pc := 38) dX6_taken_38 ?_
    refine z_icmp_eq (tgt := 55) (pc := 39) dX6_taken_39 (by decide) (fun _ => ?_) (fun _ => ?_)
    · refine z_iload_n (pc := 55) dX6_taken_55 rfl rfl ?_
      refine z_iload_n (pc := 56) dX6_taken_56 rfl rfl ?_
      refine z_icmp_ne (tgt := 71) (pc := 57) dX6_taken_57 (by decide) (fun _ => ?_) (fun _ => ?_)
      · refine z_bipush_m13 (pc := 71) dX6_taken_71 ?_
        exact z_iret (pc := 73) dX6_taken_73 rfl rfl
      · refine z_aload_n (pc := 60) dX6_taken_60 rfl rfl ?_
        refine gfX6_9 (pc := 61) dX6_taken_61 ym_0 w_10_10 rfl ?_
        refine z_iconst_3 (pc := 64) dX6_taken_64 ?_
        refine z_iload_n (pc := 65) dX6_taken_65 rfl rfl ?_
        refine z_imul (pc := 66) dX6_taken_66 ?_
        refine z_iald (pc := 67) dX6_taken_67 ym_4 ?_
        refine z_goto (tgt := 73) (pc := 68) dX6_taken_68 (by decide) ?_
        exact z_iret (pc := 73) dX6_taken_73 rfl rfl
    · refine z_iload_n (pc := 42) dX6_taken_42 rfl rfl ?_
      refine z_iload_n (pc := 43) dX6_taken_43 rfl rfl ?_
      refine z_icmp_eq (tgt := 55) (pc := 44) dX6_taken_44 (by decide) (fun _ => ?_) (fun _ => ?_)
      · refine z_iload_n (pc := 55) dX6_taken_55 rfl rfl ?_
        refine z_iload_n (pc := 56) dX6_taken_56 rfl rfl ?_
        refine z_icmp_ne (tgt := 71) (pc := 57) dX6_taken_57 (by decide) (fun _ => ?_) (fun _ => ?_)
        · refine z_bipush_m13 (pc := 71) dX6_taken_71 ?_
          exact z_iret (pc := 73) dX6_taken_73 rfl rfl
        · refine z_aload_n (pc := 60) dX6_taken_60 rfl rfl ?_
          refine gfX6_9 (pc := 61) dX6_taken_61 ym_0 w_10_10 rfl ?_
          refine z_iconst_3 (pc := 64) dX6_taken_64 ?_
          refine z_iload_n (pc := 65) dX6_taken_65 rfl rfl ?_
          refine z_imul (pc := 66) dX6_taken_66 ?_
          refine z_iald (pc := 67) dX6_taken_67 ym_4 ?_
          refine z_goto (tgt := 73) (pc := 68) dX6_taken_68 (by decide) ?_
          exact z_iret (pc := 73) dX6_taken_73 rfl rfl
      · refine z_iload_n (pc := 47) dX6_taken_47 rfl rfl ?_
        refine z_S1i (pc := 48) dX6_taken_48 lSX6_352 (Nat.le_of_ble_eq_true rfl) (kX6_over l3 σ D (by omega)) (fun r3 s3 => ?_)
        refine z_istore_n (pc := 51) dX6_taken_51 rfl (Nat.le_of_ble_eq_true rfl) (z_so4_3 rfl) ?_
        refine z_goto (tgt := 37) (pc := 52) dX6_taken_52 (by decide) ?_
        exact ih l1 l2 r3 s3
def fX6_taken  (a1 : Int32) (a2 : Int32) (σ : z_Mem) : Option (Int32 × z_Mem) :=
  z_bd (fX6_in a2.toInt64 (0 : Int64) (5 : Int64) σ) (fun r1 s1 => if r1 = 0 then (some ((-2 : Int32), s1)) else (z_bd (fX6_isOne a1 s1) (fun r2 s2 => if r2 = 0 then (some ((-11 : Int32), s2)) else (z_gd (z_in (((3 : Int32) * a1) + (2 : Int32)) 18) (fX6_taken_37 z_FU a1 a2 (s2.1 4 (z_x (((3 : Int32) * a1) + (2 : Int32)))) s2)))))
theorem kX6_taken   (a1 : Int32) (a2 : Int32) (σ : z_Mem) (D : Nat) (hD : 3 ≤ D) : z_Call YM mX6_taken D z_i [zR 0, zI a1, zI a2] σ (fX6_taken a1 a2 σ) := by
  obtain ⟨D, rfl⟩ : ∃ E, D = E + 1 := ⟨D - 1, by omega⟩
  replace hD : 2 ≤ D := by omega
  refine z_entry (lv := [some (zR 0), some (zI a1), some (zI a2), none]) (by decide) rfl (Nat.le_of_ble_eq_true rfl) rfl ?_
  rw [fX6_taken]
  refine z_iload_n (pc := 0) dX6_taken_0 rfl rfl ?_
  refine z_i2l (pc := 1) dX6_taken_1 ?_
  refine z_lconst (v := 0) (pc := 2) dX6_taken_2 rfl ?_
  refine z_ldc2 (v := 5) (pc := 3) dX6_taken_3 w_18_23 ?_
  refine z_S3i (pc := 6) dX6_taken_6 lSX6_70 (Nat.le_of_ble_eq_true rfl) (kX6_in a2.toInt64 (0 : Int64) (5 : Int64) σ D (by omega)) (fun r1 s1 => ?_)
  refine z_if_ne (tgt := 15) (pc := 9) dX6_taken_9 (by decide) (fun _ => ?_) (fun _ => ?_)
  · refine z_aload_n (pc := 15) dX6_taken_15 rfl rfl ?_
    refine z_iload_n (pc := 16) dX6_taken_16 rfl rfl ?_
    refine z_V1i (pc := 17) dX6_taken_17 lVX6_74 ym_0 rfl (Nat.le_of_ble_eq_true rfl) (kX6_isOne a1 s1 D (by omega)) (fun r2 s2 => ?_)
    refine z_if_ne (tgt := 26) (pc := 20) dX6_taken_20 (by decide) (fun _ => ?_) (fun _ => ?_)
    · refine z_aload_n (pc := 26) dX6_taken_26 rfl rfl ?_
      refine gfX6_9 (pc := 27) dX6_taken_27 ym_0 w_10_10 rfl ?_
      refine z_iconst_3 (pc := 30) dX6_taken_30 ?_
      refine z_iload_n (pc := 31) dX6_taken_31 rfl rfl ?_
      refine z_imul (pc := 32) dX6_taken_32 ?_
      refine z_iconst_2 (pc := 33) dX6_taken_33 ?_
      refine z_iadd (pc := 34) dX6_taken_34 ?_
      refine z_iald (pc := 35) dX6_taken_35 ym_4 ?_
      refine z_istore_n (pc := 36) dX6_taken_36 rfl (Nat.le_of_ble_eq_true rfl) (z_so4_3 rfl) ?_
      exact kX6_taken_37 D  hD z_FU a1 a2 (s2.1 4 (z_x (((3 : Int32) * a1) + (2 : Int32)))) s2
    · refine z_bipush_m11 (pc := 23) dX6_taken_23 ?_
      exact z_iret (pc := 25) dX6_taken_25 rfl rfl
  · refine z_bipush_m2 (pc := 12) dX6_taken_12 ?_
    exact z_iret (pc := 14) dX6_taken_14 rfl rfl
