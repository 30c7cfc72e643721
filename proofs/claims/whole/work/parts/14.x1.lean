def fX1_look_53 (a1 : Nat) (K107 : Int32 → z_Mem → Option (Unit × z_Mem)) : Nat → Int32 → Int32 → z_Mem → Option (Unit × z_Mem)
  | 0, _, _, _ => none
  | q + 1, l2, l3, σ => if l2 ≤ l3 then (K107 l2 σ) else (z_bd (fX0_gripOf a1 l2 l3 σ) (fun r4 s4 => z_bd (fX0_gripOf a1 l3 l2 s4) (fun r5 s5 => z_gd (z_in ((l2 * (6 : Int32)) + l3) 36) (z_st (z_pt s5 23 (z_x ((l2 * (6 : Int32)) + l3)) (z_mn r4 r5)) (fun s6 => z_gd (z_in ((l3 * (6 : Int32)) + l2) 36) (z_st (z_pt s6 23 (z_x ((l3 * (6 : Int32)) + l2)) (z_mn r4 r5)) (fun s7 => fX1_look_53 a1 K107 q l2 (l3 + 1) s7)))))))
theorem kX1_look_53 (D : Nat) (a1 : Nat) (ha1 : z_lm a1) (hD : 3 ≤ D) (K107 : Int32 → z_Mem → Option (Unit × z_Mem)) (hK107 : ∀ (l2 : Int32) (σ : z_Mem), z_Go YC mX1_look (D + 1) z_u 107 [some (zR 22), some (zR a1), some (zI l2), none, none] [] σ (K107 l2 σ)) : ∀ (q : Nat) (l2 : Int32) (l3 : Int32)  (σ : z_Mem), z_Go YC mX1_look (D + 1) z_u 53 [some (zR 22), some (zR a1), some (zI l2), some (zI l3), none] [] σ (fX1_look_53 a1 K107 q l2 l3 σ) := by
  intro q
  induction q with
  | zero => intros; exact z_none
  | succ q ih =>
    intro l2 l3 σ
    rw [fX1_look_53]
    refine z_iload_n (pc := 53) dX1_look_53 rfl rfl ?_
    refine z_iload_n (pc := 54) dX1_look_54 rfl rfl ?_
    refine z_icmp_ge (tgt := 107) (pc := 55) dX1_look_55 (by decide) (fun _ => ?_) (fun _ => ?_)
    · exact z_weak (lv' := [some (zR 22), some (zR a1), some (zI l2), none, none]) (z_sub_ok ⟨rfl, rfl, rfl, trivial⟩) (hK107 l2 σ)
    · refine z_aload_n (pc := 58) dX1_look_58 rfl rfl ?_
      refine z_iload_n (pc := 59) dX1_look_59 rfl rfl ?_
      refine z_iload_n (pc := 60) dX1_look_60 rfl rfl ?_
      refine z_V2i (pc := 61) dX1_look_61 lVX1_44 ha1.1 rfl (Nat.le_of_ble_eq_true rfl) (kX0_gripOf a1 ha1 l2 l3 σ D (by omega)) (fun r4 s4 => ?_)
      refine z_aload_n (pc := 64) dX1_look_64 rfl rfl ?_
      refine z_iload_n (pc := 65) dX1_look_65 rfl rfl ?_
      refine z_iload_n (pc := 66) dX1_look_66 rfl rfl ?_
      refine z_V2i (pc := 67) dX1_look_67 lVX1_44 ha1.1 rfl (Nat.le_of_ble_eq_true rfl) (kX0_gripOf a1 ha1 l3 l2 s4 D (by omega)) (fun r5 s5 => ?_)
      refine z_min (pc := 70) rfl dX1_look_70 w_30_11 w_19_20 w_19_21 w_19_22 (fun _ => Nat.le_of_ble_eq_true rfl) ?_
      refine z_istore (pc := 73) dX1_look_73 (Nat.le_of_ble_eq_true rfl) (z_so5_4 rfl) ?_
      refine z_aload_n (pc := 75) dX1_look_75 rfl rfl ?_
      refine gfX1_0 (pc := 76) dX1_look_76 yc_22 w_3_11 rfl ?_
      refine z_iload_n (pc := 79) dX1_look_79 rfl rfl ?_
      refine z_bipush_6 (pc := 80) dX1_look_80 ?_
      refine z_imul (pc := 82) dX1_look_82 ?_
      refine z_iload_n (pc := 83) dX1_look_83 rfl rfl ?_
      refine z_iadd (pc := 84) dX1_look_84 ?_
      refine z_iload (pc := 85) dX1_look_85 rfl ?_
      refine z_iast (pc := 87) dX1_look_87 yc_23 ?_
      refine z_let (fun s6 => ?_)
      refine z_aload_n (pc := 88) dX1_look_88 rfl rfl ?_
      refine gfX1_0 (pc := 89) dX1_look_89 yc_22 w_3_11 rfl ?_
      refine z_iload_n (pc := 92) dX1_look_92 rfl rfl ?_
      refine z_bipush_6 (pc := 93) dX1_look_93 ?_
      refine z_imul (pc := 95) dX1_look_95 ?_
      refine z_iload_n (pc := 96) dX1_look_96 rfl rfl ?_
      refine z_iadd (pc := 97) dX1_look_97 ?_
      refine z_iload (pc := 98) dX1_look_98 rfl ?_
      refine z_iast (pc := 100) dX1_look_100 yc_23 ?_
      refine z_let (fun s7 => ?_)
      refine z_iinc (y := 1) (pc := 101) dX1_look_101 rfl (by decide) (Nat.le_of_ble_eq_true rfl) (z_so5_3 rfl) ?_
      refine z_goto (tgt := 53) (pc := 104) dX1_look_104 (by decide) ?_
      exact z_weak (lv' := [some (zR 22), some (zR a1), some (zI l2), some (zI (l3 + 1)), none]) (z_sub_ok ⟨rfl, rfl, rfl, rfl, trivial⟩) (ih l2 (l3 + 1) s7)
def fX1_look_45 (a1 : Nat) : Nat → Int32 → z_Mem → Option (Unit × z_Mem)
  | 0, _, _ => none
  | q + 1, l2, σ => if (6 : Int32) ≤ l2 then (some ((), σ)) else (fX1_look_53 a1 (fun l2 σ => fX1_look_45 a1 q (l2 + 1) σ) z_FU l2 (0 : Int32) σ)
theorem kX1_look_45 (D : Nat) (a1 : Nat) (ha1 : z_lm a1) (hD : 3 ≤ D) : ∀ (q : Nat) (l2 : Int32)  (σ : z_Mem), z_Go YC mX1_look (D + 1) z_u 45 [some (zR 22), some (zR a1), some (zI l2), none, none] [] σ (fX1_look_45 a1 q l2 σ) := by
  intro q
  induction q with
  | zero => intros; exact z_none
  | succ q ih =>
    intro l2 σ
    rw [fX1_look_45]
    refine z_iload_n (pc := 45) dX1_look_45 rfl rfl ?_
    refine z_bipush_6 (pc := 46) dX1_look_46 ?_
    refine z_icmp_ge (tgt := 113) (pc := 48) dX1_look_48 (by decide) (fun _ => ?_) (fun _ => ?_)
    · exact z_vret (pc := 113) dX1_look_113 rfl
    · refine z_iconst_0 (pc := 51) dX1_look_51 ?_
      refine z_istore_n (pc := 52) dX1_look_52 rfl (Nat.le_of_ble_eq_true rfl) (z_so5_3 rfl) ?_
      refine kX1_look_53 D a1 ha1 hD _ (fun l2 σ => ?_) z_FU l2 (0 : Int32) σ
      · refine z_iinc (y := 1) (pc := 107) dX1_look_107 rfl (by decide) (Nat.le_of_ble_eq_true rfl) (z_so5_2 rfl) ?_
        refine z_goto (tgt := 45) (pc := 110) dX1_look_110 (by decide) ?_
        exact ih (l2 + 1) σ
def fX1_look (a1 : Nat)  (σ : z_Mem) : Option (Unit × z_Mem) :=
  z_st (z_pt σ 22 4 (z_mn (σ.1 a1 6) (6 : Int32))) (fun s1 => z_gd (z_cpOk (0 : Int32) (0 : Int32) (6 : Int32) 6 6) (z_st (z_ac s1 (a1 + 4) 25 (z_x (0 : Int32)) (z_x (0 : Int32)) (z_x (6 : Int32))) (fun s2 => z_gd (z_cpOk (0 : Int32) (0 : Int32) (6 : Int32) 6 6) (z_st (z_ac s2 (a1 + 4) 24 (z_x (0 : Int32)) (z_x (0 : Int32)) (z_x (6 : Int32))) (fun s3 => fX1_look_45 a1 z_FU (0 : Int32) s3)))))
theorem kX1_look (a1 : Nat) (ha1 : z_lm a1)  (σ : z_Mem) (D : Nat) (hD : 4 ≤ D) : z_Call YC mX1_look D z_u [zR 22, zR a1] σ (fX1_look a1 σ) := by
  obtain ⟨D, rfl⟩ : ∃ E, D = E + 1 := ⟨D - 1, by omega⟩
  replace hD : 3 ≤ D := by omega
  refine z_entry (lv := [some (zR 22), some (zR a1), none, none, none]) (by decide) rfl (Nat.le_of_ble_eq_true rfl) rfl ?_
  rw [fX1_look]
  refine z_aload_n (pc := 0) dX1_look_0 rfl rfl ?_
  refine z_aload_n (pc := 1) dX1_look_1 rfl rfl ?_
  refine gfX0_6 (pc := 2) dX1_look_2 ha1.1 w_30_10 rfl ?_
  refine z_bipush_6 (pc := 5) dX1_look_5 ?_
  refine z_min (pc := 7) rfl dX1_look_7 w_30_11 w_19_20 w_19_21 w_19_22 (fun _ => Nat.le_of_ble_eq_true rfl) ?_
  refine pfX1_4 (pc := 10) dX1_look_10 yc_22 w_30_12 rfl ?_
  refine z_let (fun s1 => ?_)
  refine z_aload_n (pc := 13) dX1_look_13 rfl rfl ?_
  refine gfX0_4 (pc := 14) dX1_look_14 ha1.1 w_30_13 rfl ?_
  refine z_iconst_0 (pc := 17) dX1_look_17 ?_
  refine z_aload_n (pc := 18) dX1_look_18 rfl rfl ?_
  refine gfX1_2 (pc := 19) dX1_look_19 yc_22 w_3_13 rfl ?_
  refine z_iconst_0 (pc := 22) dX1_look_22 ?_
  refine z_bipush_6 (pc := 23) dX1_look_23 ?_
  refine z_copy (pc := 25) rfl dX1_look_25 w_30_14 w_29_0 w_29_1 w_29_2 ha1.2.2.2.2 yc_25 ?_
  refine z_let (fun s2 => ?_)
  refine z_aload_n (pc := 28) dX1_look_28 rfl rfl ?_
  refine gfX0_4 (pc := 29) dX1_look_29 ha1.1 w_30_13 rfl ?_
  refine z_iconst_0 (pc := 32) dX1_look_32 ?_
  refine z_aload_n (pc := 33) dX1_look_33 rfl rfl ?_
  refine gfX1_1 (pc := 34) dX1_look_34 yc_22 w_3_12 rfl ?_
  refine z_iconst_0 (pc := 37) dX1_look_37 ?_
  refine z_bipush_6 (pc := 38) dX1_look_38 ?_
  refine z_copy (pc := 40) rfl dX1_look_40 w_30_14 w_29_0 w_29_1 w_29_2 ha1.2.2.2.2 yc_24 ?_
  refine z_let (fun s3 => ?_)
  refine z_iconst_0 (pc := 43) dX1_look_43 ?_
  refine z_istore_n (pc := 44) dX1_look_44 rfl (Nat.le_of_ble_eq_true rfl) (z_so5_2 rfl) ?_
  exact kX1_look_45 D a1 ha1 hD z_FU (0 : Int32) s3
def fX1_between  (a1 : Int32) (a2 : Int32) (σ : z_Mem) : Option (Int32 × z_Mem) :=
  if a1 < 0 then (some ((0 : Int32), σ)) else (if (6 : Int32) ≤ a1 then (some ((0 : Int32), σ)) else (if a2 < 0 then (some ((0 : Int32), σ)) else (if (6 : Int32) ≤ a2 then (some ((0 : Int32), σ)) else (z_gd (z_in ((a1 * (6 : Int32)) + a2) 36) (some (σ.1 23 (z_x ((a1 * (6 : Int32)) + a2)), σ))))))
theorem kX1_between   (a1 : Int32) (a2 : Int32) (σ : z_Mem) (D : Nat) (hD : 1 ≤ D) : z_Call YC mX1_between D z_i [zR 22, zI a1, zI a2] σ (fX1_between a1 a2 σ) := by
  obtain ⟨D, rfl⟩ : ∃ E, D = E + 1 := ⟨D - 1, by omega⟩
  replace hD : 0 ≤ D := by omega
  refine z_entry (lv := [some (zR 22), some (zI a1), some (zI a2), none]) (by decide) rfl (Nat.le_of_ble_eq_true rfl) rfl ?_
  rw [fX1_between]
  refine z_iload_n (pc := 0) dX1_between_0 rfl rfl ?_
  refine z_if_lt (tgt := 24) (pc := 1) dX1_between_1 (by decide) (fun _ => ?_) (fun _ => ?_)
  · refine z_iconst_0 (pc := 24) dX1_between_24 ?_
    refine z_istore_n (pc := 25) dX1_between_25 rfl (Nat.le_of_ble_eq_true rfl) (z_so4_3 rfl) ?_
    refine z_iload_n (pc := 26) dX1_between_26 rfl rfl ?_
    refine z_if_eq_T (tgt := 44) (pc := 27) dX1_between_27 (by decide) (by decide) ?_
    refine z_iconst_0 (pc := 44) dX1_between_44 ?_
    exact z_iret (pc := 45) dX1_between_45 rfl rfl
  · refine z_iload_n (pc := 4) dX1_between_4 rfl rfl ?_
    refine z_bipush_6 (pc := 5) dX1_between_5 ?_
    refine z_icmp_ge (tgt := 24) (pc := 7) dX1_between_7 (by decide) (fun _ => ?_) (fun _ => ?_)
    · refine z_iconst_0 (pc := 24) dX1_between_24 ?_
      refine z_istore_n (pc := 25) dX1_between_25 rfl (Nat.le_of_ble_eq_true rfl) (z_so4_3 rfl) ?_
      refine z_iload_n (pc := 26) dX1_between_26 rfl rfl ?_
      refine z_if_eq_T (tgt := 44) (pc := 27) dX1_between_27 (by decide) (by decide) ?_
      refine z_iconst_0 (pc := 44) dX1_between_44 ?_
      exact z_iret (pc := 45) dX1_between_45 rfl rfl
    · refine z_iload_n (pc := 10) dX1_between_10 rfl rfl ?_
      refine z_if_lt (tgt := 24) (pc := 11) dX1_between_11 (by decide) (fun _ => ?_) (fun _ => ?_)
      · refine z_iconst_0 (pc := 24) dX1_between_24 ?_
        refine z_istore_n (pc := 25) dX1_between_25 rfl (Nat.le_of_ble_eq_true rfl) (z_so4_3 rfl) ?_
        refine z_iload_n (pc := 26) dX1_between_26 rfl rfl ?_
        refine z_if_eq_T (tgt := 44) (pc := 27) dX1_between_27 (by decide) (by decide) ?_
        refine z_iconst_0 (pc := 44) dX1_between_44 ?_
        exact z_iret (pc := 45) dX1_between_45 rfl rfl
      · refine z_iload_n (pc := 14) dX1_between_14 rfl rfl ?_
        refine z_bipush_6 (pc := 15) dX1_between_15 ?_
        refine z_icmp_ge (tgt := 24) (pc := 17) dX1_between_17 (by decide) (fun _ => ?_) (fun _ => ?_)
        · refine z_iconst_0 (pc := 24) dX1_between_24 ?_
          refine z_istore_n (pc := 25) dX1_between_25 rfl (Nat.le_of_ble_eq_true rfl) (z_so4_3 rfl) ?_
          refine z_iload_n (pc := 26) dX1_between_26 rfl rfl ?_
          refine z_if_eq_T (tgt := 44) (pc := 27) dX1_between_27 (by decide) (by decide) ?_
          refine z_iconst_0 (pc := 44) dX1_between_44 ?_
          exact z_iret (pc := 45) dX1_between_45 rfl rfl
        · refine z_iconst_1 (pc := 20) dX1_between_20 ?_
          refine z_goto (tgt := 25) (pc := 21) dX1_between_21 (by decide) ?_
          refine z_istore_n (pc := 25) dX1_between_25 rfl (Nat.le_of_ble_eq_true rfl) (z_so4_3 rfl) ?_
          refine z_iload_n (pc := 26) dX1_between_26 rfl rfl ?_
          refine z_if_eq_N (tgt := 44) (pc := 27) dX1_between_27 (by decide) (by decide) ?_
          refine z_aload_n (pc := 30) dX1_between_30 rfl rfl ?_
          refine gfX1_0 (pc := 31) dX1_between_31 yc_22 w_3_11 rfl ?_
          refine z_iload_n (pc := 34) dX1_between_34 rfl rfl ?_
          refine z_bipush_6 (pc := 35) dX1_between_35 ?_
          refine z_imul (pc := 37) dX1_between_37 ?_
          refine z_iload_n (pc := 38) dX1_between_38 rfl rfl ?_
          refine z_iadd (pc := 39) dX1_between_39 ?_
          refine z_iald (pc := 40) dX1_between_40 yc_23 ?_
          refine z_goto (tgt := 45) (pc := 41) dX1_between_41 (by decide) ?_
          exact z_iret (pc := 45) dX1_between_45 rfl rfl
def fX1_weakestNow_34  : Nat → Int32 → Int32 → z_Mem → Option (Int32 × z_Mem)
  | 0, _, _, _ => none
  | q + 1, l1, l2, σ => if σ.1 22 4 ≤ l2 then (some (l1, σ)) else (z_gd (z_in (l2 - (1 : Int32)) 6) (z_gd (z_in l2 6) (z_bd (fX1_between (σ.1 24 (z_x (l2 - (1 : Int32)))) (σ.1 24 (z_x l2)) σ) (fun r2 s2 => fX1_weakestNow_34  q (z_mn l1 r2) (l2 + 1) s2))))
theorem kX1_weakestNow_34 (D : Nat)   (hD : 1 ≤ D) : ∀ (q : Nat) (l1 : Int32) (l2 : Int32)  (σ : z_Mem), z_Go YC mX1_weakestNow (D + 1) z_i 34 [some (zR 22), some (zI l1), some (zI l2)] [] σ (fX1_weakestNow_34 q l1 l2 σ) := by
  intro q
  induction q with
  | zero => intros; exact z_none
  | succ q ih =>
    intro l1 l2 σ
    rw [fX1_weakestNow_34]
    refine z_iload_n (pc := 34) dX1_weakestNow_34 rfl rfl ?_
    refine z_aload_n (pc := 35) dX1_weakestNow_35 rfl rfl ?_
    refine gfX1_4 (pc := 36) dX1_weakestNow_36 yc_22 w_30_12 rfl ?_
    refine z_icmp_ge (tgt := 71) (pc := 39) dX1_weakestNow_39 (by decide) (fun _ => ?_) (fun _ => ?_)
    · refine z_iload_n (pc := 71) dX1_weakestNow_71 rfl rfl ?_
      exact z_iret (pc := 72) dX1_weakestNow_72 rfl rfl
    · refine z_iload_n (pc := 42) dX1_weakestNow_42 rfl rfl ?_
      refine z_aload_n (pc := 43) dX1_weakestNow_43 rfl rfl ?_
      refine z_aload_n (pc := 44) dX1_weakestNow_44 rfl rfl ?_
      refine gfX1_1 (pc := 45) dX1_weakestNow_45 yc_22 w_3_12 rfl ?_
      refine z_iload_n (pc := 48) dX1_weakestNow_48 rfl rfl ?_
      refine z_iconst_1 (pc := 49) dX1_weakestNow_49 ?_
      refine z_isub (pc := 50) dX1_weakestNow_50 ?_
      refine z_iald (pc := 51) dX1_weakestNow_51 yc_24 ?_
      refine z_aload_n (pc := 52) dX1_weakestNow_52 rfl rfl ?_
      refine gfX1_1 (pc := 53) dX1_weakestNow_53 yc_22 w_3_12 rfl ?_
      refine z_iload_n (pc := 56) dX1_weakestNow_56 rfl rfl ?_
      refine z_iald (pc := 57) dX1_weakestNow_57 yc_24 ?_
      refine z_V2i (pc := 58) dX1_weakestNow_58 lVX1_47 yc_22 rfl (Nat.le_of_ble_eq_true rfl) (kX1_between (σ.1 24 (z_x (l2 - (1 : Int32)))) (σ.1 24 (z_x l2)) σ D (by omega)) (fun r2 s2 => ?_)
      refine z_min (pc := 61) rfl dX1_weakestNow_61 w_30_11 w_19_20 w_19_21 w_19_22 (fun _ => Nat.le_of_ble_eq_true rfl) ?_
      refine z_istore_n (pc := 64) dX1_weakestNow_64 rfl (Nat.le_of_ble_eq_true rfl) (z_so3_1 rfl) ?_
      refine z_iinc (y := 1) (pc := 65) dX1_weakestNow_65 rfl (by decide) (Nat.le_of_ble_eq_true rfl) (z_so3_2 rfl) ?_
      refine z_goto (tgt := 34) (pc := 68) dX1_weakestNow_68 (by decide) ?_
      exact ih (z_mn l1 r2) (l2 + 1) s2
def fX1_weakestNow   (σ : z_Mem) : Option (Int32 × z_Mem) :=
  if (2 : Int32) ≤ σ.1 22 4 then (z_gd (z_in ((σ.1 22 4) - (1 : Int32)) 6) (z_gd (z_in (0 : Int32) 6) (z_bd (fX1_between (σ.1 24 (z_x ((σ.1 22 4) - (1 : Int32)))) (σ.1 24 (z_x (0 : Int32))) σ) (fun r1 s1 => fX1_weakestNow_34 z_FU r1 (1 : Int32) s1)))) else (some ((-1 : Int32), σ))
theorem kX1_weakestNow    (σ : z_Mem) (D : Nat) (hD : 2 ≤ D) : z_Call YC mX1_weakestNow D z_i [zR 22] σ (fX1_weakestNow σ) := by
  obtain ⟨D, rfl⟩ : ∃ E, D = E + 1 := ⟨D - 1, by omega⟩
  replace hD : 1 ≤ D := by omega
  refine z_entry (lv := [some (zR 22), none, none]) (by decide) rfl (Nat.le_of_ble_eq_true rfl) rfl ?_
  rw [fX1_weakestNow]
  refine z_aload_n (pc := 0) dX1_weakestNow_0 rfl rfl ?_
  refine gfX1_4 (pc := 1) dX1_weakestNow_1 yc_22 w_30_12 rfl ?_
  refine z_iconst_2 (pc := 4) dX1_weakestNow_4 ?_
  refine z_icmp_ge (tgt := 10) (pc := 5) dX1_weakestNow_5 (by decide) (fun _ => ?_) (fun _ => ?_)
  · refine z_aload_n (pc := 10) dX1_weakestNow_10 rfl rfl ?_
    refine z_aload_n (pc := 11) dX1_weakestNow_11 rfl rfl ?_
    refine gfX1_1 (pc := 12) dX1_weakestNow_12 yc_22 w_3_12 rfl ?_
    refine z_aload_n (pc := 15) dX1_weakestNow_15 rfl rfl ?_
    refine gfX1_4 (pc := 16) dX1_weakestNow_16 yc_22 w_30_12 rfl ?_
    refine z_iconst_1 (pc := 19) dX1_weakestNow_19 ?_
    refine z_isub (pc := 20) dX1_weakestNow_20 ?_
    refine z_iald (pc := 21) dX1_weakestNow_21 yc_24 ?_
    refine z_aload_n (pc := 22) dX1_weakestNow_22 rfl rfl ?_
    refine gfX1_1 (pc := 23) dX1_weakestNow_23 yc_22 w_3_12 rfl ?_
    refine z_iconst_0 (pc := 26) dX1_weakestNow_26 ?_
    refine z_iald (pc := 27) dX1_weakestNow_27 yc_24 ?_
    refine z_V2i (pc := 28) dX1_weakestNow_28 lVX1_47 yc_22 rfl (Nat.le_of_ble_eq_true rfl) (kX1_between (σ.1 24 (z_x ((σ.1 22 4) - (1 : Int32)))) (σ.1 24 (z_x (0 : Int32))) σ D (by omega)) (fun r1 s1 => ?_)
    refine z_istore_n (pc := 31) dX1_weakestNow_31 rfl (Nat.le_of_ble_eq_true rfl) (z_so3_1 rfl) ?_
    refine z_iconst_1 (pc := 32) dX1_weakestNow_32 ?_
    refine z_istore_n (pc := 33) dX1_weakestNow_33 rfl (Nat.le_of_ble_eq_true rfl) (z_so3_2 rfl) ?_
    exact kX1_weakestNow_34 D  hD z_FU r1 (1 : Int32) s1
  · refine z_iconst_m1 (pc := 8) dX1_weakestNow_8 ?_
    exact z_iret (pc := 9) dX1_weakestNow_9 rfl rfl
def fX1_change  (a1 : Int32) (a2 : Int32) (σ : z_Mem) : Option (Unit × z_Mem) :=
  if a1 < 0 then (some ((), σ)) else (if σ.1 22 4 ≤ a1 then (some ((), σ)) else (if a2 < 0 then (some ((), σ)) else (if σ.1 22 4 ≤ a2 then (some ((), σ)) else (z_gd (z_in a1 6) (z_gd (z_in a2 6) (z_gd (z_in a1 6) (z_st (z_pt σ 24 (z_x a1) (σ.1 24 (z_x a2))) (fun s1 => z_gd (z_in a2 6) (z_st (z_pt s1 24 (z_x a2) (σ.1 24 (z_x a1))) (fun s2 => some ((), s2)))))))))))
theorem kX1_change   (a1 : Int32) (a2 : Int32) (σ : z_Mem) (D : Nat) (hD : 1 ≤ D) : z_Call YC mX1_change D z_u [zR 22, zI a1, zI a2] σ (fX1_change a1 a2 σ) := by
  obtain ⟨D, rfl⟩ : ∃ E, D = E + 1 := ⟨D - 1, by omega⟩
  replace hD : 0 ≤ D := by omega
  refine z_entry (lv := [some (zR 22), some (zI a1), some (zI a2), none]) (by decide) rfl (Nat.le_of_ble_eq_true rfl) rfl ?_
  rw [fX1_change]
  refine z_iload_n (pc := 0) dX1_change_0 rfl rfl ?_
  refine z_if_lt (tgt := 50) (pc := 1) dX1_change_1 (by decide) (fun _ => ?_) (fun _ => ?_)
  · exact z_vret (pc := 50) dX1_change_50 rfl
  · refine z_iload_n (pc := 4) dX1_change_4 rfl rfl ?_
    refine z_aload_n (pc := 5) dX1_change_5 rfl rfl ?_
    refine gfX1_4 (pc := 6) dX1_change_6 yc_22 w_30_12 rfl ?_
    refine z_icmp_ge (tgt := 50) (pc := 9) dX1_change_9 (by decide) (fun _ => ?_) (fun _ => ?_)
    · exact z_vret (pc := 50) dX1_change_50 rfl
    · refine z_iload_n (pc := 12) dX1_change_12 rfl rfl ?_
      refine z_if_lt (tgt := 50) (pc := 13) dX1_change_13 (by decide) (fun _ => ?_) (fun _ => ?_)
      · exact z_vret (pc := 50) dX1_change_50 rfl
      · refine z_iload_n (pc := 16) dX1_change_16 rfl rfl ?_
        refine z_aload_n (pc := 17) dX1_change_17 rfl rfl ?_
        refine gfX1_4 (pc := 18) dX1_change_18 yc_22 w_30_12 rfl ?_
        refine z_icmp_ge (tgt := 50) (pc := 21) dX1_change_21 (by decide) (fun _ => ?_) (fun _ => ?_)
        · exact z_vret (pc := 50) dX1_change_50 rfl
        · refine z_aload_n (pc := 24) dX1_change_24 rfl rfl ?_
          refine gfX1_1 (pc := 25) dX1_change_25 yc_22 w_3_12 rfl ?_
          refine z_iload_n (pc := 28) dX1_change_28 rfl rfl ?_
          refine z_iald (pc := 29) dX1_change_29 yc_24 ?_
          refine z_istore_n (pc := 30) dX1_change_30 rfl (Nat.le_of_ble_eq_true rfl) (z_so4_3 rfl) ?_
          refine z_aload_n (pc := 31) dX1_change_31 rfl rfl ?_
          refine gfX1_1 (pc := 32) dX1_change_32 yc_22 w_3_12 rfl ?_
          refine z_iload_n (pc := 35) dX1_change_35 rfl rfl ?_
          refine z_aload_n (pc := 36) dX1_change_36 rfl rfl ?_
          refine gfX1_1 (pc := 37) dX1_change_37 yc_22 w_3_12 rfl ?_
          refine z_iload_n (pc := 40) dX1_change_40 rfl rfl ?_
          refine z_iald (pc := 41) dX1_change_41 yc_24 ?_
          refine z_iast (pc := 42) dX1_change_42 yc_24 ?_
          refine z_let (fun s1 => ?_)
          refine z_aload_n (pc := 43) dX1_change_43 rfl rfl ?_
          refine gfX1_1 (pc := 44) dX1_change_44 yc_22 w_3_12 rfl ?_
          refine z_iload_n (pc := 47) dX1_change_47 rfl rfl ?_
          refine z_iload_n (pc := 48) dX1_change_48 rfl rfl ?_
          refine z_iast (pc := 49) dX1_change_49 yc_24 ?_
          refine z_let (fun s2 => ?_)
          exact z_vret (pc := 50) dX1_change_50 rfl
def zGS_ok (G : Int32 → Int32 → Int32 → z_Mem → Option (Unit × z_Mem)) (D : Nat) : Prop := (∀ (a1 : Int32) (a2 : Int32) (a3 : Int32) (σ : z_Mem), z_Call YC mX1_seekFrom D z_u [zR 22, zI a1, zI a2, zI a3] σ (G a1 a2 a3 σ))
def fX1_seekFrom_j23 (G : Int32 → Int32 → Int32 → z_Mem → Option (Unit × z_Mem))  (l3 : Int32) (σ : z_Mem) : Option (Unit × z_Mem) :=
  z_gd (z_in ((σ.1 22 4) - (1 : Int32)) 6) (z_gd (z_in (0 : Int32) 6) (z_bd (fX1_between (σ.1 24 (z_x ((σ.1 22 4) - (1 : Int32)))) (σ.1 24 (z_x (0 : Int32))) σ) (fun r1 s1 => if z_mn l3 r1 ≤ s1.1 22 5 then (some ((), s1)) else (z_st (z_pt s1 22 5 (z_mn l3 r1)) (fun s2 => z_gd (z_cpOk (0 : Int32) (0 : Int32) (6 : Int32) 6 6) (z_st (z_ac s2 24 26 (z_x (0 : Int32)) (z_x (0 : Int32)) (z_x (6 : Int32))) (fun s3 => some ((), s3))))))))
theorem kX1_seekFrom_j23 (D : Nat) (G : Int32 → Int32 → Int32 → z_Mem → Option (Unit × z_Mem)) (hG : zGS_ok G D)   (hD : 1 ≤ D) (l3 : Int32)  (σ : z_Mem) : z_Go YC mX1_seekFrom (D + 1) z_u 23 [some (zR 22), none, none, some (zI l3), none, none] [] σ (fX1_seekFrom_j23 G l3 σ) := by
  rw [fX1_seekFrom_j23]
  refine z_iload_n (pc := 23) dX1_seekFrom_23 rfl rfl ?_
  refine z_aload_n (pc := 24) dX1_seekFrom_24 rfl rfl ?_
  refine z_aload_n (pc := 25) dX1_seekFrom_25 rfl rfl ?_
  refine gfX1_1 (pc := 26) dX1_seekFrom_26 yc_22 w_3_12 rfl ?_
  refine z_aload_n (pc := 29) dX1_seekFrom_29 rfl rfl ?_
  refine gfX1_4 (pc := 30) dX1_seekFrom_30 yc_22 w_30_12 rfl ?_
  refine z_iconst_1 (pc := 33) dX1_seekFrom_33 ?_
  refine z_isub (pc := 34) dX1_seekFrom_34 ?_
  refine z_iald (pc := 35) dX1_seekFrom_35 yc_24 ?_
  refine z_aload_n (pc := 36) dX1_seekFrom_36 rfl rfl ?_
  refine gfX1_1 (pc := 37) dX1_seekFrom_37 yc_22 w_3_12 rfl ?_
  refine z_iconst_0 (pc := 40) dX1_seekFrom_40 ?_
  refine z_iald (pc := 41) dX1_seekFrom_41 yc_24 ?_
  refine z_V2i (pc := 42) dX1_seekFrom_42 lVX1_47 yc_22 rfl (Nat.le_of_ble_eq_true rfl) (kX1_between (σ.1 24 (z_x ((σ.1 22 4) - (1 : Int32)))) (σ.1 24 (z_x (0 : Int32))) σ D (by omega)) (fun r1 s1 => ?_)
  refine z_min (pc := 45) rfl dX1_seekFrom_45 w_30_11 w_19_20 w_19_21 w_19_22 (fun _ => Nat.le_of_ble_eq_true rfl) ?_
  refine z_istore (pc := 48) dX1_seekFrom_48 (Nat.le_of_ble_eq_true rfl) (z_so6_4 rfl) ?_
  refine z_iload (pc := 50) dX1_seekFrom_50 rfl ?_
  refine z_aload_n (pc := 52) dX1_seekFrom_52 rfl rfl ?_
  refine gfX1_5 (pc := 53) dX1_seekFrom_53 yc_22 w_30_20 rfl ?_
  refine z_icmp_le (tgt := 80) (pc := 56) dX1_seekFrom_56 (by decide) (fun _ => ?_) (fun _ => ?_)
  · exact z_vret (pc := 80) dX1_seekFrom_80 rfl
  · refine z_aload_n (pc := 59) dX1_seekFrom_59 rfl rfl ?_
    refine z_iload (pc := 60) dX1_seekFrom_60 rfl ?_
    refine pfX1_5 (pc := 62) dX1_seekFrom_62 yc_22 w_30_20 rfl ?_
    refine z_let (fun s2 => ?_)
    refine z_aload_n (pc := 65) dX1_seekFrom_65 rfl rfl ?_
    refine gfX1_1 (pc := 66) dX1_seekFrom_66 yc_22 w_3_12 rfl ?_
    refine z_iconst_0 (pc := 69) dX1_seekFrom_69 ?_
    refine z_aload_n (pc := 70) dX1_seekFrom_70 rfl rfl ?_
    refine gfX1_3 (pc := 71) dX1_seekFrom_71 yc_22 w_3_14 rfl ?_
    refine z_iconst_0 (pc := 74) dX1_seekFrom_74 ?_
    refine z_bipush_6 (pc := 75) dX1_seekFrom_75 ?_
    refine z_copy (pc := 77) rfl dX1_seekFrom_77 w_30_14 w_29_0 w_29_1 w_29_2 yc_24 yc_26 ?_
    refine z_let (fun s3 => ?_)
    exact z_vret (pc := 80) dX1_seekFrom_80 rfl
def fX1_seekFrom_84 (G : Int32 → Int32 → Int32 → z_Mem → Option (Unit × z_Mem))  : Nat → Int32 → Int32 → Int32 → Int32 → z_Mem → Option (Unit × z_Mem)
  | 0, _, _, _, _, _ => none
  | q + 1, l1, l2, l3, l4, σ => if (6 : Int32) ≤ l4 then (some ((), σ)) else (if (l2 >>> (l4 &&& 31)) &&& (1 : Int32) = (1 : Int32) then (z_gd (z_in l1 6) (z_st (z_pt σ 24 (z_x l1) l4) (fun s4 => z_gd (z_in (l1 - (1 : Int32)) 6) (z_bd (fX1_between (s4.1 24 (z_x (l1 - (1 : Int32)))) l4 s4) (fun r5 s5 => z_bd (G (l1 + (1 : Int32)) (l2 &&& (((1 : Int32) <<< (l4 &&& 31)) ^^^ (-1 : Int32))) (z_mn l3 r5) s5) (fun _ s6 => fX1_seekFrom_84 G  q l1 l2 l3 (l4 + 1) s6)))))) else (fX1_seekFrom_84 G  q l1 l2 l3 (l4 + 1) σ))
theorem kX1_seekFrom_84 (D : Nat) (G : Int32 → Int32 → Int32 → z_Mem → Option (Unit × z_Mem)) (hG : zGS_ok G D)   (hD : 1 ≤ D) : ∀ (q : Nat) (l1 : Int32) (l2 : Int32) (l3 : Int32) (l4 : Int32)  (σ : z_Mem), z_Go YC mX1_seekFrom (D + 1) z_u 84 [some (zR 22), some (zI l1), some (zI l2), some (zI l3), some (zI l4), none] [] σ (fX1_seekFrom_84 G q l1 l2 l3 l4 σ) := by
  intro q
  induction q with
  | zero => intros; exact z_none
  | succ q ih =>
    intro l1 l2 l3 l4 σ
    rw [fX1_seekFrom_84]
    refine z_iload (pc := 84) dX1_seekFrom_84 rfl ?_
    refine z_bipush_6 (pc := 86) dX1_seekFrom_86 ?_
    refine z_icmp_ge (tgt := 152) (pc := 88) dX1_seekFrom_88 (by decide) (fun _ => ?_) (fun _ => ?_)
    · exact z_vret (pc := 152) dX1_seekFrom_152 rfl
    · refine z_iload_n (pc := 91) dX1_seekFrom_91 rfl rfl ?_
      refine z_iload (pc := 92) dX1_seekFrom_92 rfl ?_
      refine z_ishr (pc := 94) dX1_seekFrom_94 ?_
      refine z_iconst_1 (pc := 95) dX1_seekFrom_95 ?_
      refine z_iand (pc := 96) dX1_seekFrom_96 ?_
      refine z_iconst_1 (pc := 97) dX1_seekFrom_97 ?_
      refine z_icmp_ne (tgt := 146) (pc := 98) dX1_seekFrom_98 (by decide) (fun _ => ?_) (fun _ => ?_)
      · refine z_iinc (y := 1) (pc := 146) dX1_seekFrom_146 rfl (by decide) (Nat.le_of_ble_eq_true rfl) (z_so6_4 rfl) ?_
        refine z_goto (tgt := 84) (pc := 149) dX1_seekFrom_149 (by decide) ?_
        exact ih l1 l2 l3 (l4 + 1) σ
      · refine z_aload_n (pc := 101) dX1_seekFrom_101 rfl rfl ?_
        refine gfX1_1 (pc := 102) dX1_seekFrom_102 yc_22 w_3_12 rfl ?_
        refine z_iload_n (pc := 105) dX1_seekFrom_105 rfl rfl ?_
        refine z_iload (pc := 106) dX1_seekFrom_106 rfl ?_
        refine z_iast (pc := 108) dX1_seekFrom_108 yc_24 ?_
        refine z_let (fun s4 => ?_)
        refine z_aload_n (pc := 109) dX1_seekFrom_109 rfl rfl ?_
        refine z_aload_n (pc := 110) dX1_seekFrom_110 rfl rfl ?_
        refine gfX1_1 (pc := 111) dX1_seekFrom_111 yc_22 w_3_12 rfl ?_
        refine z_iload_n (pc := 114) dX1_seekFrom_114 rfl rfl ?_
        refine z_iconst_1 (pc := 115) dX1_seekFrom_115 ?_
        refine z_isub (pc := 116) dX1_seekFrom_116 ?_
        refine z_iald (pc := 117) dX1_seekFrom_117 yc_24 ?_
        refine z_iload (pc := 118) dX1_seekFrom_118 rfl ?_
        refine z_V2i (pc := 120) dX1_seekFrom_120 lVX1_47 yc_22 rfl (Nat.le_of_ble_eq_true rfl) (kX1_between (s4.1 24 (z_x (l1 - (1 : Int32)))) l4 s4 D (by omega)) (fun r5 s5 => ?_)
        refine z_istore (pc := 123) dX1_seekFrom_123 (Nat.le_of_ble_eq_true rfl) (z_so6_5 rfl) ?_
        refine z_aload_n (pc := 125) dX1_seekFrom_125 rfl rfl ?_
        refine z_iload_n (pc := 126) dX1_seekFrom_126 rfl rfl ?_
        refine z_iconst_1 (pc := 127) dX1_seekFrom_127 ?_
        refine z_iadd (pc := 128) dX1_seekFrom_128 ?_
        refine z_iload_n (pc := 129) dX1_seekFrom_129 rfl rfl ?_
        refine z_iconst_1 (pc := 130) dX1_seekFrom_130 ?_
        refine z_iload (pc := 131) dX1_seekFrom_131 rfl ?_
        refine z_ishl (pc := 133) dX1_seekFrom_133 ?_
        refine z_iconst_m1 (pc := 134) dX1_seekFrom_134 ?_
        refine z_ixor (pc := 135) dX1_seekFrom_135 ?_
        refine z_iand (pc := 136) dX1_seekFrom_136 ?_
        refine z_iload_n (pc := 137) dX1_seekFrom_137 rfl rfl ?_
        refine z_iload (pc := 138) dX1_seekFrom_138 rfl ?_
        refine z_min (pc := 140) rfl dX1_seekFrom_140 w_30_11 w_19_20 w_19_21 w_19_22 (fun _ => Nat.le_of_ble_eq_true rfl) ?_
        refine z_V3u (pc := 143) dX1_seekFrom_143 lVX1_53 yc_22 rfl (Nat.le_of_ble_eq_true rfl) (hG (l1 + (1 : Int32)) (l2 &&& (((1 : Int32) <<< (l4 &&& 31)) ^^^ (-1 : Int32))) (z_mn l3 r5) s5) (fun _ s6 => ?_)
        refine z_iinc (y := 1) (pc := 146) dX1_seekFrom_146 rfl (by decide) (Nat.le_of_ble_eq_true rfl) (z_so6_4 rfl) ?_
        refine z_goto (tgt := 84) (pc := 149) dX1_seekFrom_149 (by decide) ?_
        exact z_weak (lv' := [some (zR 22), some (zI l1), some (zI l2), some (zI l3), some (zI (l4 + 1)), none]) (z_sub_ok ⟨rfl, rfl, rfl, rfl, rfl, trivial⟩) (ih l1 l2 l3 (l4 + 1) s6)
def fX1_seekFrom_b (G : Int32 → Int32 → Int32 → z_Mem → Option (Unit × z_Mem)) (a1 : Int32) (a2 : Int32) (a3 : Int32) (σ : z_Mem) : Option (Unit × z_Mem) :=
  if σ.1 22 5 < a3 then (if σ.1 22 4 ≤ a1 then (fX1_seekFrom_j23 G a3 σ) else (if a1 < (6 : Int32) then (fX1_seekFrom_84 G z_FU a1 a2 a3 (0 : Int32) σ) else (fX1_seekFrom_j23 G a3 σ))) else (some ((), σ))
theorem kX1_seekFrom_b (D : Nat) (G : Int32 → Int32 → Int32 → z_Mem → Option (Unit × z_Mem)) (hG : zGS_ok G D) (hD : 1 ≤ D) (a1 : Int32) (a2 : Int32) (a3 : Int32) (σ : z_Mem) : z_Call YC mX1_seekFrom (D + 1) z_u [zR 22, zI a1, zI a2, zI a3] σ (fX1_seekFrom_b G a1 a2 a3 σ) := by
  refine z_entry (lv := [some (zR 22), some (zI a1), some (zI a2), some (zI a3), none, none]) (by decide) rfl (Nat.le_of_ble_eq_true rfl) rfl ?_
  rw [fX1_seekFrom_b]
  refine z_iload_n (pc := 0) dX1_seekFrom_0 rfl rfl ?_
  refine z_aload_n (pc := 1) dX1_seekFrom_1 rfl rfl ?_
  refine gfX1_5 (pc := 2) dX1_seekFrom_2 yc_22 w_30_20 rfl ?_
  refine z_icmp_gt (tgt := 9) (pc := 5) dX1_seekFrom_5 (by decide) (fun _ => ?_) (fun _ => ?_)
  · refine z_iload_n (pc := 9) dX1_seekFrom_9 rfl rfl ?_
    refine z_aload_n (pc := 10) dX1_seekFrom_10 rfl rfl ?_
    refine gfX1_4 (pc := 11) dX1_seekFrom_11 yc_22 w_30_12 rfl ?_
    refine z_icmp_ge (tgt := 23) (pc := 14) dX1_seekFrom_14 (by decide) (fun _ => ?_) (fun _ => ?_)
    · exact z_weak (lv' := [some (zR 22), none, none, some (zI a3), none, none]) (z_sub_ok ⟨rfl, rfl, trivial⟩) (kX1_seekFrom_j23 D G hG  hD a3 σ)
    · refine z_iload_n (pc := 17) dX1_seekFrom_17 rfl rfl ?_
      refine z_bipush_6 (pc := 18) dX1_seekFrom_18 ?_
      refine z_icmp_lt (tgt := 81) (pc := 20) dX1_seekFrom_20 (by decide) (fun _ => ?_) (fun _ => ?_)
      · refine z_iconst_0 (pc := 81) dX1_seekFrom_81 ?_
        refine z_istore (pc := 82) dX1_seekFrom_82 (Nat.le_of_ble_eq_true rfl) (z_so6_4 rfl) ?_
        exact kX1_seekFrom_84 D G hG  hD z_FU a1 a2 a3 (0 : Int32) σ
      · exact z_weak (lv' := [some (zR 22), none, none, some (zI a3), none, none]) (z_sub_ok ⟨rfl, rfl, trivial⟩) (kX1_seekFrom_j23 D G hG  hD a3 σ)
  · exact z_vret (pc := 8) dX1_seekFrom_8 rfl
def zGS : Nat → Int32 → Int32 → Int32 → z_Mem → Option (Unit × z_Mem)
  | 0, _, _, _, _ => none
  | n + 1, a1, a2, a3, σ => fX1_seekFrom_b (zGS n) a1 a2 a3 σ
theorem zGS_all : ∀ (n D : Nat), n + 1 ≤ D → zGS_ok (zGS n) D
  | 0, D, _ => fun _ _ _ _ => z_callNone
  | n + 1, D0, hD => by
    obtain ⟨D, rfl⟩ : ∃ E, D0 = E + 1 := ⟨D0 - 1, by omega⟩
    have ih := zGS_all n
    exact fun a1 a2 a3 σ => kX1_seekFrom_b D (zGS n) (ih D (by omega)) (by omega) a1 a2 a3 σ
def fX1_seekFrom (a1 : Int32) (a2 : Int32) (a3 : Int32) (σ : z_Mem) : Option (Unit × z_Mem) := zGS 64 a1 a2 a3 σ
theorem kX1_seekFrom (a1 : Int32) (a2 : Int32) (a3 : Int32) (σ : z_Mem) (D : Nat) (hD : 65 ≤ D) : z_Call YC mX1_seekFrom D z_u [zR 22, zI a1, zI a2, zI a3] σ (fX1_seekFrom a1 a2 a3 σ) := (zGS_all 64 D (by omega)) a1 a2 a3 σ
def zGC_ok (G : Int32 → z_Mem → Option (Int32 × z_Mem)) (D : Nat) : Prop := (∀ (a1 : Int32) (σ : z_Mem), z_Call YC mX1_closesBy D z_i [zR 22, zI a1] σ (G a1 σ))
def fX1_closesBy_36 (G : Int32 → z_Mem → Option (Int32 × z_Mem))  (K74 : Int32 → Int32 → Int32 → z_Mem → Option (Int32 × z_Mem)) : Nat → Int32 → Int32 → Int32 → Int32 → z_Mem → Option (Int32 × z_Mem)
  | 0, _, _, _, _, _ => none
  | q + 1, l1, l2, l3, l4, σ => if l3 ≤ l4 then (K74 l1 l2 l3 σ) else (if l2 = 0 then (z_bd (fX1_change l3 l4 σ) (fun _ s1 => z_bd (G (l1 - (1 : Int32)) s1) (fun r2 s2 => z_bd (fX1_change l3 l4 s2) (fun _ s3 => fX1_closesBy_36 G  K74 q l1 r2 l3 (l4 + 1) s3)))) else (K74 l1 l2 l3 σ))
theorem kX1_closesBy_36 (D : Nat) (G : Int32 → z_Mem → Option (Int32 × z_Mem)) (hG : zGC_ok G D)   (hD : 2 ≤ D) (K74 : Int32 → Int32 → Int32 → z_Mem → Option (Int32 × z_Mem)) (hK74 : ∀ (l1 : Int32) (l2 : Int32) (l3 : Int32) (σ : z_Mem), z_Go YC mX1_closesBy (D + 1) z_i 74 [some (zR 22), some (zI l1), some (zI l2), some (zI l3), none] [] σ (K74 l1 l2 l3 σ)) : ∀ (q : Nat) (l1 : Int32) (l2 : Int32) (l3 : Int32) (l4 : Int32)  (σ : z_Mem), z_Go YC mX1_closesBy (D + 1) z_i 36 [some (zR 22), some (zI l1), some (zI l2), some (zI l3), some (zI l4)] [] σ (fX1_closesBy_36 G K74 q l1 l2 l3 l4 σ) := by
  intro q
  induction q with
  | zero => intros; exact z_none
  | succ q ih =>
    intro l1 l2 l3 l4 σ
    rw [fX1_closesBy_36]
    refine z_iload (pc := 36) dX1_closesBy_36 rfl ?_
    refine z_iload_n (pc := 38) dX1_closesBy_38 rfl rfl ?_
    refine z_icmp_ge (tgt := 74) (pc := 39) dX1_closesBy_39 (by decide) (fun _ => ?_) (fun _ => ?_)
    · exact z_weak (lv' := [some (zR 22), some (zI l1), some (zI l2), some (zI l3), none]) (z_sub_ok ⟨rfl, rfl, rfl, rfl, trivial⟩) (hK74 l1 l2 l3 σ)
    · refine z_iload_n (pc := 42) dX1_closesBy_42 rfl rfl ?_
      refine z_if_ne (tgt := 74) (pc := 43) dX1_closesBy_43 (by decide) (fun _ => ?_) (fun _ => ?_)
      · exact z_weak (lv' := [some (zR 22), some (zI l1), some (zI l2), some (zI l3), none]) (z_sub_ok ⟨rfl, rfl, rfl, rfl, trivial⟩) (hK74 l1 l2 l3 σ)
      · refine z_aload_n (pc := 46) dX1_closesBy_46 rfl rfl ?_
        refine z_iload_n (pc := 47) dX1_closesBy_47 rfl rfl ?_
        refine z_iload (pc := 48) dX1_closesBy_48 rfl ?_
        refine z_V2u (pc := 50) dX1_closesBy_50 lVX1_65 yc_22 rfl (Nat.le_of_ble_eq_true rfl) (kX1_change l3 l4 σ D (by omega)) (fun _ s1 => ?_)
        refine z_aload_n (pc := 53) dX1_closesBy_53 rfl rfl ?_
        refine z_iload_n (pc := 54) dX1_closesBy_54 rfl rfl ?_
        refine z_iconst_1 (pc := 55) dX1_closesBy_55 ?_
        refine z_isub (pc := 56) dX1_closesBy_56 ?_
        refine z_V1i (pc := 57) dX1_closesBy_57 lVX1_57 yc_22 rfl (Nat.le_of_ble_eq_true rfl) (hG (l1 - (1 : Int32)) s1) (fun r2 s2 => ?_)
        refine z_istore_n (pc := 60) dX1_closesBy_60 rfl (Nat.le_of_ble_eq_true rfl) (z_so5_2 rfl) ?_
        refine z_aload_n (pc := 61) dX1_closesBy_61 rfl rfl ?_
        refine z_iload_n (pc := 62) dX1_closesBy_62 rfl rfl ?_
        refine z_iload (pc := 63) dX1_closesBy_63 rfl ?_
        refine z_V2u (pc := 65) dX1_closesBy_65 lVX1_65 yc_22 rfl (Nat.le_of_ble_eq_true rfl) (kX1_change l3 l4 s2 D (by omega)) (fun _ s3 => ?_)
        refine z_iinc (y := 1) (pc := 68) dX1_closesBy_68 rfl (by decide) (Nat.le_of_ble_eq_true rfl) (z_so5_4 rfl) ?_
        refine z_goto (tgt := 36) (pc := 71) dX1_closesBy_71 (by decide) ?_
        exact ih l1 r2 l3 (l4 + 1) s3
def fX1_closesBy_21 (G : Int32 → z_Mem → Option (Int32 × z_Mem))  : Nat → Int32 → Int32 → Int32 → z_Mem → Option (Int32 × z_Mem)
  | 0, _, _, _, _ => none
  | q + 1, l1, l2, l3, σ => if σ.1 22 4 ≤ l3 then (z_gd (z_bool l2) (some (l2, σ))) else (if l2 = 0 then (fX1_closesBy_36 G (fun l1 l2 l3 σ => fX1_closesBy_21 G  q l1 l2 (l3 + 1) σ) z_FU l1 l2 l3 (0 : Int32) σ) else (z_gd (z_bool l2) (some (l2, σ))))
theorem kX1_closesBy_21 (D : Nat) (G : Int32 → z_Mem → Option (Int32 × z_Mem)) (hG : zGC_ok G D)   (hD : 2 ≤ D) : ∀ (q : Nat) (l1 : Int32) (l2 : Int32) (l3 : Int32)  (σ : z_Mem), z_Go YC mX1_closesBy (D + 1) z_i 21 [some (zR 22), some (zI l1), some (zI l2), some (zI l3), none] [] σ (fX1_closesBy_21 G q l1 l2 l3 σ) := by
  intro q
  induction q with
  | zero => intros; exact z_none
  | succ q ih =>
    intro l1 l2 l3 σ
    rw [fX1_closesBy_21]
    refine z_iload_n (pc := 21) dX1_closesBy_21 rfl rfl ?_
    refine z_aload_n (pc := 22) dX1_closesBy_22 rfl rfl ?_
    refine gfX1_4 (pc := 23) dX1_closesBy_23 yc_22 w_30_12 rfl ?_
    refine z_icmp_ge (tgt := 80) (pc := 26) dX1_closesBy_26 (by decide) (fun _ => ?_) (fun _ => ?_)
    · refine z_iload_n (pc := 80) dX1_closesBy_80 rfl rfl ?_
      exact z_guard fun hz => z_iret (pc := 81) dX1_closesBy_81 rfl (z_narB hz)
    · refine z_iload_n (pc := 29) dX1_closesBy_29 rfl rfl ?_
      refine z_if_ne (tgt := 80) (pc := 30) dX1_closesBy_30 (by decide) (fun _ => ?_) (fun _ => ?_)
      · refine z_iload_n (pc := 80) dX1_closesBy_80 rfl rfl ?_
        exact z_guard fun hz => z_iret (pc := 81) dX1_closesBy_81 rfl (z_narB hz)
      · refine z_iconst_0 (pc := 33) dX1_closesBy_33 ?_
        refine z_istore (pc := 34) dX1_closesBy_34 (Nat.le_of_ble_eq_true rfl) (z_so5_4 rfl) ?_
        refine kX1_closesBy_36 D G hG  hD _ (fun l1 l2 l3 σ => ?_) z_FU l1 l2 l3 (0 : Int32) σ
        · refine z_iinc (y := 1) (pc := 74) dX1_closesBy_74 rfl (by decide) (Nat.le_of_ble_eq_true rfl) (z_so5_3 rfl) ?_
          refine z_goto (tgt := 21) (pc := 77) dX1_closesBy_77 (by decide) ?_
          exact ih l1 l2 (l3 + 1) σ
def fX1_closesBy_b (G : Int32 → z_Mem → Option (Int32 × z_Mem)) (a1 : Int32) (σ : z_Mem) : Option (Int32 × z_Mem) :=
  if 0 < a1 then (fX1_closesBy_21 G z_FU a1 (0 : Int32) (0 : Int32) σ) else (z_bd (fX1_weakestNow σ) (fun r4 s4 => if r4 = 0 then (some ((0 : Int32), s4)) else (some ((1 : Int32), s4))))
theorem kX1_closesBy_b (D : Nat) (G : Int32 → z_Mem → Option (Int32 × z_Mem)) (hG : zGC_ok G D) (hD : 2 ≤ D) (a1 : Int32) (σ : z_Mem) : z_Call YC mX1_closesBy (D + 1) z_i [zR 22, zI a1] σ (fX1_closesBy_b G a1 σ) := by
  refine z_entry (lv := [some (zR 22), some (zI a1), none, none, none]) (by decide) rfl (Nat.le_of_ble_eq_true rfl) rfl ?_
  rw [fX1_closesBy_b]
  refine z_iload_n (pc := 0) dX1_closesBy_0 rfl rfl ?_
  refine z_if_gt (tgt := 17) (pc := 1) dX1_closesBy_1 (by decide) (fun _ => ?_) (fun _ => ?_)
  · refine z_iconst_0 (pc := 17) dX1_closesBy_17 ?_
    refine z_istore_n (pc := 18) dX1_closesBy_18 rfl (Nat.le_of_ble_eq_true rfl) (z_so5_2 rfl) ?_
    refine z_iconst_0 (pc := 19) dX1_closesBy_19 ?_
    refine z_istore_n (pc := 20) dX1_closesBy_20 rfl (Nat.le_of_ble_eq_true rfl) (z_so5_3 rfl) ?_
    exact kX1_closesBy_21 D G hG  hD z_FU a1 (0 : Int32) (0 : Int32) σ
  · refine z_aload_n (pc := 4) dX1_closesBy_4 rfl rfl ?_
    refine z_V0i (pc := 5) dX1_closesBy_5 lVX1_61 yc_22 rfl (Nat.le_of_ble_eq_true rfl) (kX1_weakestNow σ D (by omega)) (fun r4 s4 => ?_)
    refine z_if_eq (tgt := 15) (pc := 8) dX1_closesBy_8 (by decide) (fun _ => ?_) (fun _ => ?_)
    · refine z_iconst_0 (pc := 15) dX1_closesBy_15 ?_
      exact z_iret (pc := 16) dX1_closesBy_16 rfl rfl
    · refine z_iconst_1 (pc := 11) dX1_closesBy_11 ?_
      refine z_goto (tgt := 16) (pc := 12) dX1_closesBy_12 (by decide) ?_
      exact z_iret (pc := 16) dX1_closesBy_16 rfl rfl
def zGC : Nat → Int32 → z_Mem → Option (Int32 × z_Mem)
  | 0, _, _ => none
  | n + 1, a1, σ => fX1_closesBy_b (zGC n) a1 σ
theorem zGC_all : ∀ (n D : Nat), n + 2 ≤ D → zGC_ok (zGC n) D
  | 0, D, _ => fun _ _ => z_callNone
  | n + 1, D0, hD => by
    obtain ⟨D, rfl⟩ : ∃ E, D0 = E + 1 := ⟨D0 - 1, by omega⟩
    have ih := zGC_all n
    exact fun a1 σ => kX1_closesBy_b D (zGC n) (ih D (by omega)) (by omega) a1 σ
def fX1_closesBy (a1 : Int32) (σ : z_Mem) : Option (Int32 × z_Mem) := zGC 64 a1 σ
theorem kX1_closesBy (a1 : Int32) (σ : z_Mem) (D : Nat) (hD : 66 ≤ D) : z_Call YC mX1_closesBy D z_i [zR 22, zI a1] σ (fX1_closesBy a1 σ) := (zGC_all 64 D (by omega)) a1 σ
def fX1_seekBest_24  : Nat → Int32 → Int32 → z_Mem → Option (Unit × z_Mem)
  | 0, _, _, _ => none
  | q + 1, l1, l2, σ => if σ.1 22 4 ≤ l2 then (if σ.1 22 4 ≤ (1 : Int32) then (some ((), σ)) else (z_bd (fX1_seekFrom (1 : Int32) l1 (99 : Int32) σ) (fun _ s3 => some ((), s3)))) else (z_gd (z_in l2 6) (fX1_seekBest_24  q (l1 ||| ((1 : Int32) <<< ((σ.1 24 (z_x l2)) &&& 31))) (l2 + 1) σ))
theorem kX1_seekBest_24 (D : Nat)   (hD : 65 ≤ D) : ∀ (q : Nat) (l1 : Int32) (l2 : Int32)  (σ : z_Mem), z_Go YC mX1_seekBest (D + 1) z_u 24 [some (zR 22), some (zI l1), some (zI l2)] [] σ (fX1_seekBest_24 q l1 l2 σ) := by
  intro q
  induction q with
  | zero => intros; exact z_none
  | succ q ih =>
    intro l1 l2 σ
    rw [fX1_seekBest_24]
    refine z_iload_n (pc := 24) dX1_seekBest_24 rfl rfl ?_
    refine z_aload_n (pc := 25) dX1_seekBest_25 rfl rfl ?_
    refine gfX1_4 (pc := 26) dX1_seekBest_26 yc_22 w_30_12 rfl ?_
    refine z_icmp_ge (tgt := 49) (pc := 29) dX1_seekBest_29 (by decide) (fun _ => ?_) (fun _ => ?_)
    · refine z_aload_n (pc := 49) dX1_seekBest_49 rfl rfl ?_
      refine gfX1_4 (pc := 50) dX1_seekBest_50 yc_22 w_30_12 rfl ?_
      refine z_iconst_1 (pc := 53) dX1_seekBest_53 ?_
      refine z_icmp_le (tgt := 65) (pc := 54) dX1_seekBest_54 (by decide) (fun _ => ?_) (fun _ => ?_)
      · exact z_vret (pc := 65) dX1_seekBest_65 rfl
      · refine z_aload_n (pc := 57) dX1_seekBest_57 rfl rfl ?_
        refine z_iconst_1 (pc := 58) dX1_seekBest_58 ?_
        refine z_iload_n (pc := 59) dX1_seekBest_59 rfl rfl ?_
        refine z_bipush_99 (pc := 60) dX1_seekBest_60 ?_
        refine z_V3u (pc := 62) dX1_seekBest_62 lVX1_53 yc_22 rfl (Nat.le_of_ble_eq_true rfl) (kX1_seekFrom (1 : Int32) l1 (99 : Int32) σ D (by omega)) (fun _ s3 => ?_)
        exact z_vret (pc := 65) dX1_seekBest_65 rfl
    · refine z_iload_n (pc := 32) dX1_seekBest_32 rfl rfl ?_
      refine z_iconst_1 (pc := 33) dX1_seekBest_33 ?_
      refine z_aload_n (pc := 34) dX1_seekBest_34 rfl rfl ?_
      refine gfX1_1 (pc := 35) dX1_seekBest_35 yc_22 w_3_12 rfl ?_
      refine z_iload_n (pc := 38) dX1_seekBest_38 rfl rfl ?_
      refine z_iald (pc := 39) dX1_seekBest_39 yc_24 ?_
      refine z_ishl (pc := 40) dX1_seekBest_40 ?_
      refine z_ior (pc := 41) dX1_seekBest_41 ?_
      refine z_istore_n (pc := 42) dX1_seekBest_42 rfl (Nat.le_of_ble_eq_true rfl) (z_so3_1 rfl) ?_
      refine z_iinc (y := 1) (pc := 43) dX1_seekBest_43 rfl (by decide) (Nat.le_of_ble_eq_true rfl) (z_so3_2 rfl) ?_
      refine z_goto (tgt := 24) (pc := 46) dX1_seekBest_46 (by decide) ?_
      exact ih (l1 ||| ((1 : Int32) <<< ((σ.1 24 (z_x l2)) &&& 31))) (l2 + 1) σ
def fX1_seekBest   (σ : z_Mem) : Option (Unit × z_Mem) :=
  z_st (z_pt σ 22 5 (-1 : Int32)) (fun s1 => z_gd (z_cpOk (0 : Int32) (0 : Int32) (6 : Int32) 6 6) (z_st (z_ac s1 24 26 (z_x (0 : Int32)) (z_x (0 : Int32)) (z_x (6 : Int32))) (fun s2 => fX1_seekBest_24 z_FU (0 : Int32) (1 : Int32) s2)))
theorem kX1_seekBest    (σ : z_Mem) (D : Nat) (hD : 66 ≤ D) : z_Call YC mX1_seekBest D z_u [zR 22] σ (fX1_seekBest σ) := by
  obtain ⟨D, rfl⟩ : ∃ E, D = E + 1 := ⟨D - 1, by omega⟩
  replace hD : 65 ≤ D := by omega
  refine z_entry (lv := [some (zR 22), none, none]) (by decide) rfl (Nat.le_of_ble_eq_true rfl) rfl ?_
  rw [fX1_seekBest]
  refine z_aload_n (pc := 0) dX1_seekBest_0 rfl rfl ?_
  refine z_iconst_m1 (pc := 1) dX1_seekBest_1 ?_
  refine pfX1_5 (pc := 2) dX1_seekBest_2 yc_22 w_30_20 rfl ?_
  refine z_let (fun s1 => ?_)
  refine z_aload_n (pc := 5) dX1_seekBest_5 rfl rfl ?_
  refine gfX1_1 (pc := 6) dX1_seekBest_6 yc_22 w_3_12 rfl ?_
  refine z_iconst_0 (pc := 9) dX1_seekBest_9 ?_
  refine z_aload_n (pc := 10) dX1_seekBest_10 rfl rfl ?_
  refine gfX1_3 (pc := 11) dX1_seekBest_11 yc_22 w_3_14 rfl ?_
  refine z_iconst_0 (pc := 14) dX1_seekBest_14 ?_
  refine z_bipush_6 (pc := 15) dX1_seekBest_15 ?_
  refine z_copy (pc := 17) rfl dX1_seekBest_17 w_30_14 w_29_0 w_29_1 w_29_2 yc_24 yc_26 ?_
  refine z_let (fun s2 => ?_)
  refine z_iconst_0 (pc := 20) dX1_seekBest_20 ?_
  refine z_istore_n (pc := 21) dX1_seekBest_21 rfl (Nat.le_of_ble_eq_true rfl) (z_so3_1 rfl) ?_
  refine z_iconst_1 (pc := 22) dX1_seekBest_22 ?_
  refine z_istore_n (pc := 23) dX1_seekBest_23 rfl (Nat.le_of_ble_eq_true rfl) (z_so3_2 rfl) ?_
  exact kX1_seekBest_24 D  hD z_FU (0 : Int32) (1 : Int32) s2
def fX1_bestDigits_4  : Nat → Int32 → Int32 → z_Mem → Option (Int32 × z_Mem)
  | 0, _, _, _ => none
  | q + 1, l1, l2, σ => if σ.1 22 4 ≤ l2 then (some (l1, σ)) else (z_gd (z_in l2 6) (fX1_bestDigits_4  q (((l1 * (10 : Int32)) + (σ.1 26 (z_x l2))) + (1 : Int32)) (l2 + 1) σ))
theorem kX1_bestDigits_4 (D : Nat)   (hD : 0 ≤ D) : ∀ (q : Nat) (l1 : Int32) (l2 : Int32)  (σ : z_Mem), z_Go YC mX1_bestDigits (D + 1) z_i 4 [some (zR 22), some (zI l1), some (zI l2)] [] σ (fX1_bestDigits_4 q l1 l2 σ) := by
  intro q
  induction q with
  | zero => intros; exact z_none
  | succ q ih =>
    intro l1 l2 σ
    rw [fX1_bestDigits_4]
    refine z_iload_n (pc := 4) dX1_bestDigits_4 rfl rfl ?_
    refine z_aload_n (pc := 5) dX1_bestDigits_5 rfl rfl ?_
    refine gfX1_4 (pc := 6) dX1_bestDigits_6 yc_22 w_30_12 rfl ?_
    refine z_icmp_ge (tgt := 32) (pc := 9) dX1_bestDigits_9 (by decide) (fun _ => ?_) (fun _ => ?_)
    · refine z_iload_n (pc := 32) dX1_bestDigits_32 rfl rfl ?_
      exact z_iret (pc := 33) dX1_bestDigits_33 rfl rfl
    · refine z_iload_n (pc := 12) dX1_bestDigits_12 rfl rfl ?_
      refine z_bipush_10 (pc := 13) dX1_bestDigits_13 ?_
      refine z_imul (pc := 15) dX1_bestDigits_15 ?_
      refine z_aload_n (pc := 16) dX1_bestDigits_16 rfl rfl ?_
      refine gfX1_3 (pc := 17) dX1_bestDigits_17 yc_22 w_3_14 rfl ?_
      refine z_iload_n (pc := 20) dX1_bestDigits_20 rfl rfl ?_
      refine z_iald (pc := 21) dX1_bestDigits_21 yc_26 ?_
      refine z_iadd (pc := 22) dX1_bestDigits_22 ?_
      refine z_iconst_1 (pc := 23) dX1_bestDigits_23 ?_
      refine z_iadd (pc := 24) dX1_bestDigits_24 ?_
      refine z_istore_n (pc := 25) dX1_bestDigits_25 rfl (Nat.le_of_ble_eq_true rfl) (z_so3_1 rfl) ?_
      refine z_iinc (y := 1) (pc := 26) dX1_bestDigits_26 rfl (by decide) (Nat.le_of_ble_eq_true rfl) (z_so3_2 rfl) ?_
      refine z_goto (tgt := 4) (pc := 29) dX1_bestDigits_29 (by decide) ?_
      exact ih (((l1 * (10 : Int32)) + (σ.1 26 (z_x l2))) + (1 : Int32)) (l2 + 1) σ
def fX1_bestDigits   (σ : z_Mem) : Option (Int32 × z_Mem) :=
  fX1_bestDigits_4 z_FU (0 : Int32) (0 : Int32) σ
theorem kX1_bestDigits    (σ : z_Mem) (D : Nat) (hD : 1 ≤ D) : z_Call YC mX1_bestDigits D z_i [zR 22] σ (fX1_bestDigits σ) := by
  obtain ⟨D, rfl⟩ : ∃ E, D = E + 1 := ⟨D - 1, by omega⟩
  replace hD : 0 ≤ D := by omega
  refine z_entry (lv := [some (zR 22), none, none]) (by decide) rfl (Nat.le_of_ble_eq_true rfl) rfl ?_
  rw [fX1_bestDigits]
  refine z_iconst_0 (pc := 0) dX1_bestDigits_0 ?_
  refine z_istore_n (pc := 1) dX1_bestDigits_1 rfl (Nat.le_of_ble_eq_true rfl) (z_so3_1 rfl) ?_
  refine z_iconst_0 (pc := 2) dX1_bestDigits_2 ?_
  refine z_istore_n (pc := 3) dX1_bestDigits_3 rfl (Nat.le_of_ble_eq_true rfl) (z_so3_2 rfl) ?_
  exact kX1_bestDigits_4 D  hD z_FU (0 : Int32) (0 : Int32) σ
def fX1_fewestChanges_2  : Nat → Int32 → z_Mem → Option (Int32 × z_Mem)
  | 0, _, _ => none
  | q + 1, l1, σ => if (2 : Int32) < l1 then (some ((-1 : Int32), σ)) else (z_bd (fX1_closesBy l1 σ) (fun r1 s1 => if r1 = 0 then (fX1_fewestChanges_2  q (l1 + 1) s1) else (some (l1, s1))))
theorem kX1_fewestChanges_2 (D : Nat)   (hD : 66 ≤ D) : ∀ (q : Nat) (l1 : Int32)  (σ : z_Mem), z_Go YC mX1_fewestChanges (D + 1) z_i 2 [some (zR 22), some (zI l1)] [] σ (fX1_fewestChanges_2 q l1 σ) := by
  intro q
  induction q with
  | zero => intros; exact z_none
  | succ q ih =>
    intro l1 σ
    rw [fX1_fewestChanges_2]
    refine z_iload_n (pc := 2) dX1_fewestChanges_2 rfl rfl ?_
    refine z_iconst_2 (pc := 3) dX1_fewestChanges_3 ?_
    refine z_icmp_gt (tgt := 23) (pc := 4) dX1_fewestChanges_4 (by decide) (fun _ => ?_) (fun _ => ?_)
    · refine z_iconst_m1 (pc := 23) dX1_fewestChanges_23 ?_
      exact z_iret (pc := 24) dX1_fewestChanges_24 rfl rfl
    · refine z_aload_n (pc := 7) dX1_fewestChanges_7 rfl rfl ?_
      refine z_iload_n (pc := 8) dX1_fewestChanges_8 rfl rfl ?_
      refine z_V1i (pc := 9) dX1_fewestChanges_9 lVX1_57 yc_22 rfl (Nat.le_of_ble_eq_true rfl) (kX1_closesBy l1 σ D (by omega)) (fun r1 s1 => ?_)
      refine z_if_eq (tgt := 17) (pc := 12) dX1_fewestChanges_12 (by decide) (fun _ => ?_) (fun _ => ?_)
      · refine z_iinc (y := 1) (pc := 17) dX1_fewestChanges_17 rfl (by decide) (Nat.le_of_ble_eq_true rfl) (z_so2_1 rfl) ?_
        refine z_goto (tgt := 2) (pc := 20) dX1_fewestChanges_20 (by decide) ?_
        exact ih (l1 + 1) s1
      · refine z_iload_n (pc := 15) dX1_fewestChanges_15 rfl rfl ?_
        exact z_iret (pc := 16) dX1_fewestChanges_16 rfl rfl
def fX1_fewestChanges   (σ : z_Mem) : Option (Int32 × z_Mem) :=
  fX1_fewestChanges_2 z_FU (0 : Int32) σ
theorem kX1_fewestChanges    (σ : z_Mem) (D : Nat) (hD : 67 ≤ D) : z_Call YC mX1_fewestChanges D z_i [zR 22] σ (fX1_fewestChanges σ) := by
  obtain ⟨D, rfl⟩ : ∃ E, D = E + 1 := ⟨D - 1, by omega⟩
  replace hD : 66 ≤ D := by omega
  refine z_entry (lv := [some (zR 22), none]) (by decide) rfl (Nat.le_of_ble_eq_true rfl) rfl ?_
  rw [fX1_fewestChanges]
  refine z_iconst_0 (pc := 0) dX1_fewestChanges_0 ?_
  refine z_istore_n (pc := 1) dX1_fewestChanges_1 rfl (Nat.le_of_ble_eq_true rfl) (z_so2_1 rfl) ?_
  exact kX1_fewestChanges_2 D  hD z_FU (0 : Int32) σ
def fX1_weakestDrawn_20  : Nat → Int32 → Int32 → Int32 → z_Mem → Option (Int32 × z_Mem)
  | 0, _, _, _, _ => none
  | q + 1, l2, l3, l4, σ => if l2 ≤ l4 then (z_bd (fX1_weakestNow σ) (fun r2 s2 => some (r2, s2))) else (z_bd (fX1_change (((((l3 * (1103515245 : Int32)) + (12345 : Int32)).toUInt32 >>> ((9 : Int32).toUInt32 &&& Int32.toUInt32 31)).toInt32) - ((((l3 * (1103515245 : Int32)) + (12345 : Int32)).toUInt32 >>> ((9 : Int32).toUInt32 &&& Int32.toUInt32 31)).toInt32) / (8 : Int32) * (8 : Int32)) (((((((l3 * (1103515245 : Int32)) + (12345 : Int32)) * (1103515245 : Int32)) + (12345 : Int32)).toUInt32 >>> ((9 : Int32).toUInt32 &&& Int32.toUInt32 31)).toInt32) - ((((((l3 * (1103515245 : Int32)) + (12345 : Int32)) * (1103515245 : Int32)) + (12345 : Int32)).toUInt32 >>> ((9 : Int32).toUInt32 &&& Int32.toUInt32 31)).toInt32) / (8 : Int32) * (8 : Int32)) σ) (fun _ s3 => fX1_weakestDrawn_20  q l2 ((((l3 * (1103515245 : Int32)) + (12345 : Int32)) * (1103515245 : Int32)) + (12345 : Int32)) (l4 + 1) s3))
theorem kX1_weakestDrawn_20 (D : Nat)   (hD : 2 ≤ D) : ∀ (q : Nat) (l2 : Int32) (l3 : Int32) (l4 : Int32)  (σ : z_Mem), z_Go YC mX1_weakestDrawn (D + 1) z_i 20 [some (zR 22), none, some (zI l2), some (zI l3), some (zI l4), none] [] σ (fX1_weakestDrawn_20 q l2 l3 l4 σ) := by
  intro q
  induction q with
  | zero => intros; exact z_none
  | succ q ih =>
    intro l2 l3 l4 σ
    rw [fX1_weakestDrawn_20]
    refine z_iload (pc := 20) dX1_weakestDrawn_20 rfl ?_
    refine z_iload_n (pc := 22) dX1_weakestDrawn_22 rfl rfl ?_
    refine z_icmp_ge (tgt := 71) (pc := 23) dX1_weakestDrawn_23 (by decide) (fun _ => ?_) (fun _ => ?_)
    · refine z_aload_n (pc := 71) dX1_weakestDrawn_71 rfl rfl ?_
      refine z_V0i (pc := 72) dX1_weakestDrawn_72 lVX1_61 yc_22 rfl (Nat.le_of_ble_eq_true rfl) (kX1_weakestNow σ D (by omega)) (fun r2 s2 => ?_)
      exact z_iret (pc := 75) dX1_weakestDrawn_75 rfl rfl
    · refine z_iload_n (pc := 26) dX1_weakestDrawn_26 rfl rfl ?_
      refine z_ldc (v := 1103515245) (pc := 27) dX1_weakestDrawn_27 w_37_8 ?_
      refine z_imul (pc := 29) dX1_weakestDrawn_29 ?_
      refine z_sipush_12345 (pc := 30) dX1_weakestDrawn_30 ?_
      refine z_iadd (pc := 33) dX1_weakestDrawn_33 ?_
      refine z_istore (pc := 34) dX1_weakestDrawn_34 (Nat.le_of_ble_eq_true rfl) (z_so6_5 rfl) ?_
      refine z_iload (pc := 36) dX1_weakestDrawn_36 rfl ?_
      refine z_ldc (v := 1103515245) (pc := 38) dX1_weakestDrawn_38 w_37_8 ?_
      refine z_imul (pc := 40) dX1_weakestDrawn_40 ?_
      refine z_sipush_12345 (pc := 41) dX1_weakestDrawn_41 ?_
      refine z_iadd (pc := 44) dX1_weakestDrawn_44 ?_
      refine z_istore_n (pc := 45) dX1_weakestDrawn_45 rfl (Nat.le_of_ble_eq_true rfl) (z_so6_3 rfl) ?_
      refine z_aload_n (pc := 46) dX1_weakestDrawn_46 rfl rfl ?_
      refine z_iload (pc := 47) dX1_weakestDrawn_47 rfl ?_
      refine z_bipush_9 (pc := 49) dX1_weakestDrawn_49 ?_
      refine z_iushr (pc := 51) dX1_weakestDrawn_51 ?_
      refine z_bipush_8 (pc := 52) dX1_weakestDrawn_52 ?_
      refine z_iremK (pc := 54) dX1_weakestDrawn_54 (by decide) ?_
      refine z_iload_n (pc := 55) dX1_weakestDrawn_55 rfl rfl ?_
      refine z_bipush_9 (pc := 56) dX1_weakestDrawn_56 ?_
      refine z_iushr (pc := 58) dX1_weakestDrawn_58 ?_
      refine z_bipush_8 (pc := 59) dX1_weakestDrawn_59 ?_
      refine z_iremK (pc := 61) dX1_weakestDrawn_61 (by decide) ?_
      refine z_V2u (pc := 62) dX1_weakestDrawn_62 lVX1_65 yc_22 rfl (Nat.le_of_ble_eq_true rfl) (kX1_change (((((l3 * (1103515245 : Int32)) + (12345 : Int32)).toUInt32 >>> ((9 : Int32).toUInt32 &&& Int32.toUInt32 31)).toInt32) - ((((l3 * (1103515245 : Int32)) + (12345 : Int32)).toUInt32 >>> ((9 : Int32).toUInt32 &&& Int32.toUInt32 31)).toInt32) / (8 : Int32) * (8 : Int32)) (((((((l3 * (1103515245 : Int32)) + (12345 : Int32)) * (1103515245 : Int32)) + (12345 : Int32)).toUInt32 >>> ((9 : Int32).toUInt32 &&& Int32.toUInt32 31)).toInt32) - ((((((l3 * (1103515245 : Int32)) + (12345 : Int32)) * (1103515245 : Int32)) + (12345 : Int32)).toUInt32 >>> ((9 : Int32).toUInt32 &&& Int32.toUInt32 31)).toInt32) / (8 : Int32) * (8 : Int32)) σ D (by omega)) (fun _ s3 => ?_)
      refine z_iinc (y := 1) (pc := 65) dX1_weakestDrawn_65 rfl (by decide) (Nat.le_of_ble_eq_true rfl) (z_so6_4 rfl) ?_
      refine z_goto (tgt := 20) (pc := 68) dX1_weakestDrawn_68 (by decide) ?_
      exact z_weak (lv' := [some (zR 22), none, some (zI l2), some (zI ((((l3 * (1103515245 : Int32)) + (12345 : Int32)) * (1103515245 : Int32)) + (12345 : Int32))), some (zI (l4 + 1)), none]) (z_sub_ok ⟨rfl, rfl, rfl, rfl, trivial⟩) (ih l2 ((((l3 * (1103515245 : Int32)) + (12345 : Int32)) * (1103515245 : Int32)) + (12345 : Int32)) (l4 + 1) s3)
def fX1_weakestDrawn  (a1 : Int32) (a2 : Int32) (σ : z_Mem) : Option (Int32 × z_Mem) :=
  z_gd (z_cpOk (0 : Int32) (0 : Int32) (6 : Int32) 6 6) (z_st (z_ac σ 25 24 (z_x (0 : Int32)) (z_x (0 : Int32)) (z_x (6 : Int32))) (fun s1 => fX1_weakestDrawn_20 z_FU a2 a1 (0 : Int32) s1))
theorem kX1_weakestDrawn   (a1 : Int32) (a2 : Int32) (σ : z_Mem) (D : Nat) (hD : 3 ≤ D) : z_Call YC mX1_weakestDrawn D z_i [zR 22, zI a1, zI a2] σ (fX1_weakestDrawn a1 a2 σ) := by
  obtain ⟨D, rfl⟩ : ∃ E, D = E + 1 := ⟨D - 1, by omega⟩
  replace hD : 2 ≤ D := by omega
  refine z_entry (lv := [some (zR 22), some (zI a1), some (zI a2), none, none, none]) (by decide) rfl (Nat.le_of_ble_eq_true rfl) rfl ?_
  rw [fX1_weakestDrawn]
  refine z_aload_n (pc := 0) dX1_weakestDrawn_0 rfl rfl ?_
  refine gfX1_2 (pc := 1) dX1_weakestDrawn_1 yc_22 w_3_13 rfl ?_
  refine z_iconst_0 (pc := 4) dX1_weakestDrawn_4 ?_
  refine z_aload_n (pc := 5) dX1_weakestDrawn_5 rfl rfl ?_
  refine gfX1_1 (pc := 6) dX1_weakestDrawn_6 yc_22 w_3_12 rfl ?_
  refine z_iconst_0 (pc := 9) dX1_weakestDrawn_9 ?_
  refine z_bipush_6 (pc := 10) dX1_weakestDrawn_10 ?_
  refine z_copy (pc := 12) rfl dX1_weakestDrawn_12 w_30_14 w_29_0 w_29_1 w_29_2 yc_25 yc_24 ?_
  refine z_let (fun s1 => ?_)
  refine z_iload_n (pc := 15) dX1_weakestDrawn_15 rfl rfl ?_
  refine z_istore_n (pc := 16) dX1_weakestDrawn_16 rfl (Nat.le_of_ble_eq_true rfl) (z_so6_3 rfl) ?_
  refine z_iconst_0 (pc := 17) dX1_weakestDrawn_17 ?_
  refine z_istore (pc := 18) dX1_weakestDrawn_18 (Nat.le_of_ble_eq_true rfl) (z_so6_4 rfl) ?_
  exact z_weak (lv' := [some (zR 22), none, some (zI a2), some (zI a1), some (zI (0 : Int32)), none]) (z_sub_ok ⟨rfl, rfl, rfl, rfl, trivial⟩) (kX1_weakestDrawn_20 D  hD z_FU a2 a1 (0 : Int32) s1)
