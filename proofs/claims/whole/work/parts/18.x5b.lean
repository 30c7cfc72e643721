def fX5_order  (a1 : Int32) (σ : z_Mem) : Option (Int32 × z_Mem) :=
  if a1 = 0 then (z_bd (fX1_look 7 σ) (fun _ s1 => z_bd (fX1_seekBest s1) (fun _ s2 => if a1 = 0 then (z_bd (fX1_bestDigits s2) (fun r3 s3 => some (r3, s3))) else (some (s2.1 22 5, s2))))) else (if a1 = (1 : Int32) then (z_bd (fX1_look 7 σ) (fun _ s4 => z_bd (fX1_seekBest s4) (fun _ s5 => if a1 = 0 then (z_bd (fX1_bestDigits s5) (fun r6 s6 => some (r6, s6))) else (some (s5.1 22 5, s5))))) else (some ((-2 : Int32), σ)))
theorem kX5_order   (a1 : Int32) (σ : z_Mem) (D : Nat) (hD : 67 ≤ D) : z_Call YC mX5_order D z_i [zR 0, zI a1] σ (fX5_order a1 σ) := by
  obtain ⟨D, rfl⟩ : ∃ E, D = E + 1 := ⟨D - 1, by omega⟩
  replace hD : 66 ≤ D := by omega
  refine z_entry (lv := [some (zR 0), some (zI a1)]) (by decide) rfl (Nat.le_of_ble_eq_true rfl) rfl ?_
  rw [fX5_order]
  refine z_iload_n (pc := 0) dX5_order_0 rfl rfl ?_
  refine z_if_eq (tgt := 12) (pc := 1) dX5_order_1 (by decide) (fun _ => ?_) (fun _ => ?_)
  · refine z_aload_n (pc := 12) dX5_order_12 rfl rfl ?_
    refine gfX5_5 (pc := 13) dX5_order_13 yc_0 w_2_5 rfl ?_
    refine z_aload_n (pc := 16) dX5_order_16 rfl rfl ?_
    refine gfX5_2 (pc := 17) dX5_order_17 yc_0 w_1_23 rfl ?_
    refine z_V1u (pc := 20) dX5_order_20 lVX5_157 yc_22 rfl (Nat.le_of_ble_eq_true rfl) (kX1_look 7 z_lm_7 σ D (by omega)) (fun _ s1 => ?_)
    refine z_aload_n (pc := 23) dX5_order_23 rfl rfl ?_
    refine gfX5_5 (pc := 24) dX5_order_24 yc_0 w_2_5 rfl ?_
    refine z_V0u (pc := 27) dX5_order_27 lVX5_160 yc_22 rfl (Nat.le_of_ble_eq_true rfl) (kX1_seekBest s1 D (by omega)) (fun _ s2 => ?_)
    refine z_iload_n (pc := 30) dX5_order_30 rfl rfl ?_
    refine z_if_ne (tgt := 44) (pc := 31) dX5_order_31 (by decide) (fun _ => ?_) (fun _ => ?_)
    · refine z_aload_n (pc := 44) dX5_order_44 rfl rfl ?_
      refine gfX5_5 (pc := 45) dX5_order_45 yc_0 w_2_5 rfl ?_
      refine gfX1_5 (pc := 48) dX5_order_48 yc_22 w_30_5 rfl ?_
      exact z_iret (pc := 51) dX5_order_51 rfl rfl
    · refine z_aload_n (pc := 34) dX5_order_34 rfl rfl ?_
      refine gfX5_5 (pc := 35) dX5_order_35 yc_0 w_2_5 rfl ?_
      refine z_V0i (pc := 38) dX5_order_38 lVX5_163 yc_22 rfl (Nat.le_of_ble_eq_true rfl) (kX1_bestDigits s2 D (by omega)) (fun r3 s3 => ?_)
      refine z_goto (tgt := 51) (pc := 41) dX5_order_41 (by decide) ?_
      exact z_iret (pc := 51) dX5_order_51 rfl rfl
  · refine z_iload_n (pc := 4) dX5_order_4 rfl rfl ?_
    refine z_iconst_1 (pc := 5) dX5_order_5 ?_
    refine z_icmp_eq (tgt := 12) (pc := 6) dX5_order_6 (by decide) (fun _ => ?_) (fun _ => ?_)
    · refine z_aload_n (pc := 12) dX5_order_12 rfl rfl ?_
      refine gfX5_5 (pc := 13) dX5_order_13 yc_0 w_2_5 rfl ?_
      refine z_aload_n (pc := 16) dX5_order_16 rfl rfl ?_
      refine gfX5_2 (pc := 17) dX5_order_17 yc_0 w_1_23 rfl ?_
      refine z_V1u (pc := 20) dX5_order_20 lVX5_157 yc_22 rfl (Nat.le_of_ble_eq_true rfl) (kX1_look 7 z_lm_7 σ D (by omega)) (fun _ s4 => ?_)
      refine z_aload_n (pc := 23) dX5_order_23 rfl rfl ?_
      refine gfX5_5 (pc := 24) dX5_order_24 yc_0 w_2_5 rfl ?_
      refine z_V0u (pc := 27) dX5_order_27 lVX5_160 yc_22 rfl (Nat.le_of_ble_eq_true rfl) (kX1_seekBest s4 D (by omega)) (fun _ s5 => ?_)
      refine z_iload_n (pc := 30) dX5_order_30 rfl rfl ?_
      refine z_if_ne (tgt := 44) (pc := 31) dX5_order_31 (by decide) (fun _ => ?_) (fun _ => ?_)
      · refine z_aload_n (pc := 44) dX5_order_44 rfl rfl ?_
        refine gfX5_5 (pc := 45) dX5_order_45 yc_0 w_2_5 rfl ?_
        refine gfX1_5 (pc := 48) dX5_order_48 yc_22 w_30_5 rfl ?_
        exact z_iret (pc := 51) dX5_order_51 rfl rfl
      · refine z_aload_n (pc := 34) dX5_order_34 rfl rfl ?_
        refine gfX5_5 (pc := 35) dX5_order_35 yc_0 w_2_5 rfl ?_
        refine z_V0i (pc := 38) dX5_order_38 lVX5_163 yc_22 rfl (Nat.le_of_ble_eq_true rfl) (kX1_bestDigits s5 D (by omega)) (fun r6 s6 => ?_)
        refine z_goto (tgt := 51) (pc := 41) dX5_order_41 (by decide) ?_
        exact z_iret (pc := 51) dX5_order_51 rfl rfl
    · refine z_bipush_m2 (pc := 9) dX5_order_9 ?_
      exact z_iret (pc := 11) dX5_order_11 rfl rfl
def fX5_let_19  : Nat → Int32 → Int32 → Int32 → Int32 → z_Mem → Option (Int32 × z_Mem)
  | 0, _, _, _, _, _ => none
  | q + 1, l1, l2, l3, l4, σ => if σ.1 7 5 ≤ l4 then (if l1 = 0 then (some (l2, σ)) else (some (l3, σ))) else (if σ.1 7 6 ≤ (2 : Int32) then (if l1 = 0 then (some (l2, σ)) else (some (l3, σ))) else (z_bd (fX0_placeOf 7 l4 σ) (fun r1 s1 => if r1 = (-1 : Int32) then (fX5_let_19  q l1 l2 l3 (l4 + 1) s1) else (z_bd (fX0_takeFrom 12 7 s1) (fun _ s2 => z_bd (fX0_leave 12 r1 s2) (fun _ s3 => z_bd (fX0_weakest 12 s3) (fun r4 s4 => if r4 ≤ l3 then (fX5_let_19  q l1 l2 l3 (l4 + 1) s4) else (fX5_let_19  q l1 l4 r4 (l4 + 1) s4))))))))
theorem kX5_let_19 (D : Nat)   (hD : 5 ≤ D) : ∀ (q : Nat) (l1 : Int32) (l2 : Int32) (l3 : Int32) (l4 : Int32)  (σ : z_Mem), z_Go YC mX5_let (D + 1) z_i 19 [some (zR 0), some (zI l1), some (zI l2), some (zI l3), some (zI l4), none, none] [] σ (fX5_let_19 q l1 l2 l3 l4 σ) := by
  intro q
  induction q with
  | zero => intros; exact z_none
  | succ q ih =>
    intro l1 l2 l3 l4 σ
    rw [fX5_let_19]
    refine z_iload (pc := 19) dX5_let_19 rfl ?_
    refine z_aload_n (pc := 21) dX5_let_21 rfl rfl ?_
    refine gfX5_2 (pc := 22) dX5_let_22 yc_0 w_1_23 rfl ?_
    refine gfX0_5 (pc := 25) dX5_let_25 yc_7 w_32_3 rfl ?_
    refine z_icmp_ge (tgt := 106) (pc := 28) dX5_let_28 (by decide) (fun _ => ?_) (fun _ => ?_)
    · refine z_iload_n (pc := 106) dX5_let_106 rfl rfl ?_
      refine z_if_ne (tgt := 114) (pc := 107) dX5_let_107 (by decide) (fun _ => ?_) (fun _ => ?_)
      · refine z_iload_n (pc := 114) dX5_let_114 rfl rfl ?_
        exact z_iret (pc := 115) dX5_let_115 rfl rfl
      · refine z_iload_n (pc := 110) dX5_let_110 rfl rfl ?_
        refine z_goto (tgt := 115) (pc := 111) dX5_let_111 (by decide) ?_
        exact z_iret (pc := 115) dX5_let_115 rfl rfl
    · refine z_aload_n (pc := 31) dX5_let_31 rfl rfl ?_
      refine gfX5_2 (pc := 32) dX5_let_32 yc_0 w_1_23 rfl ?_
      refine gfX0_6 (pc := 35) dX5_let_35 yc_7 w_24_20 rfl ?_
      refine z_iconst_2 (pc := 38) dX5_let_38 ?_
      refine z_icmp_le (tgt := 106) (pc := 39) dX5_let_39 (by decide) (fun _ => ?_) (fun _ => ?_)
      · refine z_iload_n (pc := 106) dX5_let_106 rfl rfl ?_
        refine z_if_ne (tgt := 114) (pc := 107) dX5_let_107 (by decide) (fun _ => ?_) (fun _ => ?_)
        · refine z_iload_n (pc := 114) dX5_let_114 rfl rfl ?_
          exact z_iret (pc := 115) dX5_let_115 rfl rfl
        · refine z_iload_n (pc := 110) dX5_let_110 rfl rfl ?_
          refine z_goto (tgt := 115) (pc := 111) dX5_let_111 (by decide) ?_
          exact z_iret (pc := 115) dX5_let_115 rfl rfl
      · refine z_aload_n (pc := 42) dX5_let_42 rfl rfl ?_
        refine gfX5_2 (pc := 43) dX5_let_43 yc_0 w_1_23 rfl ?_
        refine z_iload (pc := 46) dX5_let_46 rfl ?_
        refine z_V1i (pc := 48) dX5_let_48 lVX5_90 yc_7 rfl (Nat.le_of_ble_eq_true rfl) (kX0_placeOf 7 z_lm_7 l4 σ D (by omega)) (fun r1 s1 => ?_)
        refine z_istore (pc := 51) dX5_let_51 (Nat.le_of_ble_eq_true rfl) (z_so7_5 rfl) ?_
        refine z_iload (pc := 53) dX5_let_53 rfl ?_
        refine z_iconst_m1 (pc := 55) dX5_let_55 ?_
        refine z_icmp_eq (tgt := 100) (pc := 56) dX5_let_56 (by decide) (fun _ => ?_) (fun _ => ?_)
        · refine z_iinc (y := 1) (pc := 100) dX5_let_100 rfl (by decide) (Nat.le_of_ble_eq_true rfl) (z_so7_4 rfl) ?_
          refine z_goto (tgt := 19) (pc := 103) dX5_let_103 (by decide) ?_
          exact z_weak (lv' := [some (zR 0), some (zI l1), some (zI l2), some (zI l3), some (zI (l4 + 1)), none, none]) (z_sub_ok ⟨rfl, rfl, rfl, rfl, rfl, trivial⟩) (ih l1 l2 l3 (l4 + 1) s1)
        · refine z_aload_n (pc := 59) dX5_let_59 rfl rfl ?_
          refine gfX5_3 (pc := 60) dX5_let_60 yc_0 w_2_0 rfl ?_
          refine z_aload_n (pc := 63) dX5_let_63 rfl rfl ?_
          refine gfX5_2 (pc := 64) dX5_let_64 yc_0 w_1_23 rfl ?_
          refine z_V1u (pc := 67) dX5_let_67 lVX5_153 yc_12 rfl (Nat.le_of_ble_eq_true rfl) (kX0_takeFrom 12 7 z_lm_12 z_lm_7 s1 D (by omega)) (fun _ s2 => ?_)
          refine z_aload_n (pc := 70) dX5_let_70 rfl rfl ?_
          refine gfX5_3 (pc := 71) dX5_let_71 yc_0 w_2_0 rfl ?_
          refine z_iload (pc := 74) dX5_let_74 rfl ?_
          refine z_V1u (pc := 76) dX5_let_76 lVX5_121 yc_12 rfl (Nat.le_of_ble_eq_true rfl) (kX0_leave 12 z_lm_12 r1 s2 D (by omega)) (fun _ s3 => ?_)
          refine z_aload_n (pc := 79) dX5_let_79 rfl rfl ?_
          refine gfX5_3 (pc := 80) dX5_let_80 yc_0 w_2_0 rfl ?_
          refine z_V0i (pc := 83) dX5_let_83 lVX5_135 yc_12 rfl (Nat.le_of_ble_eq_true rfl) (kX0_weakest 12 z_lm_12 s3 D (by omega)) (fun r4 s4 => ?_)
          refine z_istore (pc := 86) dX5_let_86 (Nat.le_of_ble_eq_true rfl) (z_so7_6 rfl) ?_
          refine z_iload (pc := 88) dX5_let_88 rfl ?_
          refine z_iload_n (pc := 90) dX5_let_90 rfl rfl ?_
          refine z_icmp_le (tgt := 100) (pc := 91) dX5_let_91 (by decide) (fun _ => ?_) (fun _ => ?_)
          · refine z_iinc (y := 1) (pc := 100) dX5_let_100 rfl (by decide) (Nat.le_of_ble_eq_true rfl) (z_so7_4 rfl) ?_
            refine z_goto (tgt := 19) (pc := 103) dX5_let_103 (by decide) ?_
            exact z_weak (lv' := [some (zR 0), some (zI l1), some (zI l2), some (zI l3), some (zI (l4 + 1)), none, none]) (z_sub_ok ⟨rfl, rfl, rfl, rfl, rfl, trivial⟩) (ih l1 l2 l3 (l4 + 1) s4)
          · refine z_iload (pc := 94) dX5_let_94 rfl ?_
            refine z_istore_n (pc := 96) dX5_let_96 rfl (Nat.le_of_ble_eq_true rfl) (z_so7_2 rfl) ?_
            refine z_iload (pc := 97) dX5_let_97 rfl ?_
            refine z_istore_n (pc := 99) dX5_let_99 rfl (Nat.le_of_ble_eq_true rfl) (z_so7_3 rfl) ?_
            refine z_iinc (y := 1) (pc := 100) dX5_let_100 rfl (by decide) (Nat.le_of_ble_eq_true rfl) (z_so7_4 rfl) ?_
            refine z_goto (tgt := 19) (pc := 103) dX5_let_103 (by decide) ?_
            exact z_weak (lv' := [some (zR 0), some (zI l1), some (zI l4), some (zI r4), some (zI (l4 + 1)), none, none]) (z_sub_ok ⟨rfl, rfl, rfl, rfl, rfl, trivial⟩) (ih l1 l4 r4 (l4 + 1) s4)
def fX5_let  (a1 : Int32) (σ : z_Mem) : Option (Int32 × z_Mem) :=
  if a1 = 0 then (fX5_let_19 z_FU a1 (-1 : Int32) (-1 : Int32) (0 : Int32) σ) else (if a1 = (1 : Int32) then (fX5_let_19 z_FU a1 (-1 : Int32) (-1 : Int32) (0 : Int32) σ) else (some ((-2 : Int32), σ)))
theorem kX5_let   (a1 : Int32) (σ : z_Mem) (D : Nat) (hD : 6 ≤ D) : z_Call YC mX5_let D z_i [zR 0, zI a1] σ (fX5_let a1 σ) := by
  obtain ⟨D, rfl⟩ : ∃ E, D = E + 1 := ⟨D - 1, by omega⟩
  replace hD : 5 ≤ D := by omega
  refine z_entry (lv := [some (zR 0), some (zI a1), none, none, none, none, none]) (by decide) rfl (Nat.le_of_ble_eq_true rfl) rfl ?_
  rw [fX5_let]
  refine z_iload_n (pc := 0) dX5_let_0 rfl rfl ?_
  refine z_if_eq (tgt := 12) (pc := 1) dX5_let_1 (by decide) (fun _ => ?_) (fun _ => ?_)
  · refine z_iconst_m1 (pc := 12) dX5_let_12 ?_
    refine z_istore_n (pc := 13) dX5_let_13 rfl (Nat.le_of_ble_eq_true rfl) (z_so7_2 rfl) ?_
    refine z_iconst_m1 (pc := 14) dX5_let_14 ?_
    refine z_istore_n (pc := 15) dX5_let_15 rfl (Nat.le_of_ble_eq_true rfl) (z_so7_3 rfl) ?_
    refine z_iconst_0 (pc := 16) dX5_let_16 ?_
    refine z_istore (pc := 17) dX5_let_17 (Nat.le_of_ble_eq_true rfl) (z_so7_4 rfl) ?_
    exact kX5_let_19 D  hD z_FU a1 (-1 : Int32) (-1 : Int32) (0 : Int32) σ
  · refine z_iload_n (pc := 4) dX5_let_4 rfl rfl ?_
    refine z_iconst_1 (pc := 5) dX5_let_5 ?_
    refine z_icmp_eq (tgt := 12) (pc := 6) dX5_let_6 (by decide) (fun _ => ?_) (fun _ => ?_)
    · refine z_iconst_m1 (pc := 12) dX5_let_12 ?_
      refine z_istore_n (pc := 13) dX5_let_13 rfl (Nat.le_of_ble_eq_true rfl) (z_so7_2 rfl) ?_
      refine z_iconst_m1 (pc := 14) dX5_let_14 ?_
      refine z_istore_n (pc := 15) dX5_let_15 rfl (Nat.le_of_ble_eq_true rfl) (z_so7_3 rfl) ?_
      refine z_iconst_0 (pc := 16) dX5_let_16 ?_
      refine z_istore (pc := 17) dX5_let_17 (Nat.le_of_ble_eq_true rfl) (z_so7_4 rfl) ?_
      exact kX5_let_19 D  hD z_FU a1 (-1 : Int32) (-1 : Int32) (0 : Int32) σ
    · refine z_bipush_m2 (pc := 9) dX5_let_9 ?_
      exact z_iret (pc := 11) dX5_let_11 rfl rfl
def fX5_letsIn_46  : Nat → Int32 → Int32 → Int32 → Int32 → Int32 → z_Mem → Option (Int32 × z_Mem)
  | 0, _, _, _, _, _, _ => none
  | q + 1, l1, l2, l3, l4, l5, σ => if σ.1 7 6 < l5 then (if l2 = 0 then (some (l3, σ)) else (some (l4, σ))) else (z_bd (fX0_takeFrom 12 7 σ) (fun _ s3 => z_bd (fX0_enter 12 l1 l5 s3) (fun _ s4 => z_bd (fX0_weakest 12 s4) (fun r5 s5 => if r5 ≤ l4 then (fX5_letsIn_46  q l1 l2 l3 l4 (l5 + 1) s5) else (fX5_letsIn_46  q l1 l2 l5 r5 (l5 + 1) s5)))))
theorem kX5_letsIn_46 (D : Nat)   (hD : 5 ≤ D) : ∀ (q : Nat) (l1 : Int32) (l2 : Int32) (l3 : Int32) (l4 : Int32) (l5 : Int32)  (σ : z_Mem), z_Go YC mX5_letsIn (D + 1) z_i 46 [some (zR 0), some (zI l1), some (zI l2), some (zI l3), some (zI l4), some (zI l5), none] [] σ (fX5_letsIn_46 q l1 l2 l3 l4 l5 σ) := by
  intro q
  induction q with
  | zero => intros; exact z_none
  | succ q ih =>
    intro l1 l2 l3 l4 l5 σ
    rw [fX5_letsIn_46]
    refine z_iload (pc := 46) dX5_letsIn_46 rfl ?_
    refine z_aload_n (pc := 48) dX5_letsIn_48 rfl rfl ?_
    refine gfX5_2 (pc := 49) dX5_letsIn_49 yc_0 w_1_23 rfl ?_
    refine gfX0_6 (pc := 52) dX5_letsIn_52 yc_7 w_24_20 rfl ?_
    refine z_icmp_gt (tgt := 108) (pc := 55) dX5_letsIn_55 (by decide) (fun _ => ?_) (fun _ => ?_)
    · refine z_iload_n (pc := 108) dX5_letsIn_108 rfl rfl ?_
      refine z_if_ne (tgt := 116) (pc := 109) dX5_letsIn_109 (by decide) (fun _ => ?_) (fun _ => ?_)
      · refine z_iload (pc := 116) dX5_letsIn_116 rfl ?_
        exact z_iret (pc := 118) dX5_letsIn_118 rfl rfl
      · refine z_iload_n (pc := 112) dX5_letsIn_112 rfl rfl ?_
        refine z_goto (tgt := 118) (pc := 113) dX5_letsIn_113 (by decide) ?_
        exact z_iret (pc := 118) dX5_letsIn_118 rfl rfl
    · refine z_aload_n (pc := 58) dX5_letsIn_58 rfl rfl ?_
      refine gfX5_3 (pc := 59) dX5_letsIn_59 yc_0 w_2_0 rfl ?_
      refine z_aload_n (pc := 62) dX5_letsIn_62 rfl rfl ?_
      refine gfX5_2 (pc := 63) dX5_letsIn_63 yc_0 w_1_23 rfl ?_
      refine z_V1u (pc := 66) dX5_letsIn_66 lVX5_153 yc_12 rfl (Nat.le_of_ble_eq_true rfl) (kX0_takeFrom 12 7 z_lm_12 z_lm_7 σ D (by omega)) (fun _ s3 => ?_)
      refine z_aload_n (pc := 69) dX5_letsIn_69 rfl rfl ?_
      refine gfX5_3 (pc := 70) dX5_letsIn_70 yc_0 w_2_0 rfl ?_
      refine z_iload_n (pc := 73) dX5_letsIn_73 rfl rfl ?_
      refine z_iload (pc := 74) dX5_letsIn_74 rfl ?_
      refine z_V2u (pc := 76) dX5_letsIn_76 lVX5_128 yc_12 rfl (Nat.le_of_ble_eq_true rfl) (kX0_enter 12 z_lm_12 l1 l5 s3 D (by omega)) (fun _ s4 => ?_)
      refine z_aload_n (pc := 79) dX5_letsIn_79 rfl rfl ?_
      refine gfX5_3 (pc := 80) dX5_letsIn_80 yc_0 w_2_0 rfl ?_
      refine z_V0i (pc := 83) dX5_letsIn_83 lVX5_135 yc_12 rfl (Nat.le_of_ble_eq_true rfl) (kX0_weakest 12 z_lm_12 s4 D (by omega)) (fun r5 s5 => ?_)
      refine z_istore (pc := 86) dX5_letsIn_86 (Nat.le_of_ble_eq_true rfl) (z_so7_6 rfl) ?_
      refine z_iload (pc := 88) dX5_letsIn_88 rfl ?_
      refine z_iload (pc := 90) dX5_letsIn_90 rfl ?_
      refine z_icmp_le (tgt := 102) (pc := 92) dX5_letsIn_92 (by decide) (fun _ => ?_) (fun _ => ?_)
      · refine z_iinc (y := 1) (pc := 102) dX5_letsIn_102 rfl (by decide) (Nat.le_of_ble_eq_true rfl) (z_so7_5 rfl) ?_
        refine z_goto (tgt := 46) (pc := 105) dX5_letsIn_105 (by decide) ?_
        exact z_weak (lv' := [some (zR 0), some (zI l1), some (zI l2), some (zI l3), some (zI l4), some (zI (l5 + 1)), none]) (z_sub_ok ⟨rfl, rfl, rfl, rfl, rfl, rfl, trivial⟩) (ih l1 l2 l3 l4 (l5 + 1) s5)
      · refine z_iload (pc := 95) dX5_letsIn_95 rfl ?_
        refine z_istore_n (pc := 97) dX5_letsIn_97 rfl (Nat.le_of_ble_eq_true rfl) (z_so7_3 rfl) ?_
        refine z_iload (pc := 98) dX5_letsIn_98 rfl ?_
        refine z_istore (pc := 100) dX5_letsIn_100 (Nat.le_of_ble_eq_true rfl) (z_so7_4 rfl) ?_
        refine z_iinc (y := 1) (pc := 102) dX5_letsIn_102 rfl (by decide) (Nat.le_of_ble_eq_true rfl) (z_so7_5 rfl) ?_
        refine z_goto (tgt := 46) (pc := 105) dX5_letsIn_105 (by decide) ?_
        exact z_weak (lv' := [some (zR 0), some (zI l1), some (zI l2), some (zI l5), some (zI r5), some (zI (l5 + 1)), none]) (z_sub_ok ⟨rfl, rfl, rfl, rfl, rfl, rfl, trivial⟩) (ih l1 l2 l5 r5 (l5 + 1) s5)
def fX5_letsIn  (a1 : Int32) (a2 : Int32) (σ : z_Mem) : Option (Int32 × z_Mem) :=
  z_bd (fX0_has 7 a1 σ) (fun r1 s1 => if r1 = 0 then (some ((-2 : Int32), s1)) else (if a2 = 0 then (z_bd (fX0_placeOf 7 a1 s1) (fun r2 s2 => if r2 = (-1 : Int32) then (fX5_letsIn_46 z_FU a1 a2 (-1 : Int32) (-1 : Int32) (1 : Int32) s2) else (some ((-3 : Int32), s2)))) else (if a2 = (1 : Int32) then (z_bd (fX0_placeOf 7 a1 s1) (fun r6 s6 => if r6 = (-1 : Int32) then (fX5_letsIn_46 z_FU a1 a2 (-1 : Int32) (-1 : Int32) (1 : Int32) s6) else (some ((-3 : Int32), s6)))) else (some ((-2 : Int32), s1)))))
theorem kX5_letsIn   (a1 : Int32) (a2 : Int32) (σ : z_Mem) (D : Nat) (hD : 6 ≤ D) : z_Call YC mX5_letsIn D z_i [zR 0, zI a1, zI a2] σ (fX5_letsIn a1 a2 σ) := by
  obtain ⟨D, rfl⟩ : ∃ E, D = E + 1 := ⟨D - 1, by omega⟩
  replace hD : 5 ≤ D := by omega
  refine z_entry (lv := [some (zR 0), some (zI a1), some (zI a2), none, none, none, none]) (by decide) rfl (Nat.le_of_ble_eq_true rfl) rfl ?_
  rw [fX5_letsIn]
  refine z_aload_n (pc := 0) dX5_letsIn_0 rfl rfl ?_
  refine gfX5_2 (pc := 1) dX5_letsIn_1 yc_0 w_1_23 rfl ?_
  refine z_iload_n (pc := 4) dX5_letsIn_4 rfl rfl ?_
  refine z_V1i (pc := 5) dX5_letsIn_5 lVX5_75 yc_7 rfl (Nat.le_of_ble_eq_true rfl) (kX0_has 7 z_lm_7 a1 σ D (by omega)) (fun r1 s1 => ?_)
  refine z_if_eq (tgt := 20) (pc := 8) dX5_letsIn_8 (by decide) (fun _ => ?_) (fun _ => ?_)
  · refine z_bipush_m2 (pc := 20) dX5_letsIn_20 ?_
    exact z_iret (pc := 22) dX5_letsIn_22 rfl rfl
  · refine z_iload_n (pc := 11) dX5_letsIn_11 rfl rfl ?_
    refine z_if_eq (tgt := 23) (pc := 12) dX5_letsIn_12 (by decide) (fun _ => ?_) (fun _ => ?_)
    · refine z_aload_n (pc := 23) dX5_letsIn_23 rfl rfl ?_
      refine gfX5_2 (pc := 24) dX5_letsIn_24 yc_0 w_1_23 rfl ?_
      refine z_iload_n (pc := 27) dX5_letsIn_27 rfl rfl ?_
      refine z_V1i (pc := 28) dX5_letsIn_28 lVX5_90 yc_7 rfl (Nat.le_of_ble_eq_true rfl) (kX0_placeOf 7 z_lm_7 a1 s1 D (by omega)) (fun r2 s2 => ?_)
      refine z_iconst_m1 (pc := 31) dX5_letsIn_31 ?_
      refine z_icmp_eq (tgt := 38) (pc := 32) dX5_letsIn_32 (by decide) (fun _ => ?_) (fun _ => ?_)
      · refine z_iconst_m1 (pc := 38) dX5_letsIn_38 ?_
        refine z_istore_n (pc := 39) dX5_letsIn_39 rfl (Nat.le_of_ble_eq_true rfl) (z_so7_3 rfl) ?_
        refine z_iconst_m1 (pc := 40) dX5_letsIn_40 ?_
        refine z_istore (pc := 41) dX5_letsIn_41 (Nat.le_of_ble_eq_true rfl) (z_so7_4 rfl) ?_
        refine z_iconst_1 (pc := 43) dX5_letsIn_43 ?_
        refine z_istore (pc := 44) dX5_letsIn_44 (Nat.le_of_ble_eq_true rfl) (z_so7_5 rfl) ?_
        exact kX5_letsIn_46 D  hD z_FU a1 a2 (-1 : Int32) (-1 : Int32) (1 : Int32) s2
      · refine z_bipush_m3 (pc := 35) dX5_letsIn_35 ?_
        exact z_iret (pc := 37) dX5_letsIn_37 rfl rfl
    · refine z_iload_n (pc := 15) dX5_letsIn_15 rfl rfl ?_
      refine z_iconst_1 (pc := 16) dX5_letsIn_16 ?_
      refine z_icmp_eq (tgt := 23) (pc := 17) dX5_letsIn_17 (by decide) (fun _ => ?_) (fun _ => ?_)
      · refine z_aload_n (pc := 23) dX5_letsIn_23 rfl rfl ?_
        refine gfX5_2 (pc := 24) dX5_letsIn_24 yc_0 w_1_23 rfl ?_
        refine z_iload_n (pc := 27) dX5_letsIn_27 rfl rfl ?_
        refine z_V1i (pc := 28) dX5_letsIn_28 lVX5_90 yc_7 rfl (Nat.le_of_ble_eq_true rfl) (kX0_placeOf 7 z_lm_7 a1 s1 D (by omega)) (fun r6 s6 => ?_)
        refine z_iconst_m1 (pc := 31) dX5_letsIn_31 ?_
        refine z_icmp_eq (tgt := 38) (pc := 32) dX5_letsIn_32 (by decide) (fun _ => ?_) (fun _ => ?_)
        · refine z_iconst_m1 (pc := 38) dX5_letsIn_38 ?_
          refine z_istore_n (pc := 39) dX5_letsIn_39 rfl (Nat.le_of_ble_eq_true rfl) (z_so7_3 rfl) ?_
          refine z_iconst_m1 (pc := 40) dX5_letsIn_40 ?_
          refine z_istore (pc := 41) dX5_letsIn_41 (Nat.le_of_ble_eq_true rfl) (z_so7_4 rfl) ?_
          refine z_iconst_1 (pc := 43) dX5_letsIn_43 ?_
          refine z_istore (pc := 44) dX5_letsIn_44 (Nat.le_of_ble_eq_true rfl) (z_so7_5 rfl) ?_
          exact kX5_letsIn_46 D  hD z_FU a1 a2 (-1 : Int32) (-1 : Int32) (1 : Int32) s6
        · refine z_bipush_m3 (pc := 35) dX5_letsIn_35 ?_
          exact z_iret (pc := 37) dX5_letsIn_37 rfl rfl
      · refine z_bipush_m2 (pc := 20) dX5_letsIn_20 ?_
        exact z_iret (pc := 22) dX5_letsIn_22 rfl rfl
def fX5_swaps   (σ : z_Mem) : Option (Int32 × z_Mem) :=
  z_bd (fX1_look 7 σ) (fun _ s1 => z_bd (fX1_fewestChanges s1) (fun r2 s2 => some (r2, s2)))
theorem kX5_swaps    (σ : z_Mem) (D : Nat) (hD : 68 ≤ D) : z_Call YC mX5_swaps D z_i [zR 0] σ (fX5_swaps σ) := by
  obtain ⟨D, rfl⟩ : ∃ E, D = E + 1 := ⟨D - 1, by omega⟩
  replace hD : 67 ≤ D := by omega
  refine z_entry (lv := [some (zR 0)]) (by decide) rfl (Nat.le_of_ble_eq_true rfl) rfl ?_
  rw [fX5_swaps]
  refine z_aload_n (pc := 0) dX5_swaps_0 rfl rfl ?_
  refine gfX5_5 (pc := 1) dX5_swaps_1 yc_0 w_2_5 rfl ?_
  refine z_aload_n (pc := 4) dX5_swaps_4 rfl rfl ?_
  refine gfX5_2 (pc := 5) dX5_swaps_5 yc_0 w_1_23 rfl ?_
  refine z_V1u (pc := 8) dX5_swaps_8 lVX5_157 yc_22 rfl (Nat.le_of_ble_eq_true rfl) (kX1_look 7 z_lm_7 σ D (by omega)) (fun _ s1 => ?_)
  refine z_aload_n (pc := 11) dX5_swaps_11 rfl rfl ?_
  refine gfX5_5 (pc := 12) dX5_swaps_12 yc_0 w_2_5 rfl ?_
  refine z_V0i (pc := 15) dX5_swaps_15 lVX5_172 yc_22 rfl (Nat.le_of_ble_eq_true rfl) (kX1_fewestChanges s1 D (by omega)) (fun r2 s2 => ?_)
  exact z_iret (pc := 18) dX5_swaps_18 rfl rfl
def fX5_mean_28  : Nat → Int32 → Int32 → Int32 → z_Mem → Option (Int64 × z_Mem)
  | 0, _, _, _, _ => none
  | q + 1, l1, l2, l3, σ => if σ.1 7 6 ≤ l3 then (z_bd (fX5_lowestTerm l2 (σ.1 7 6) l1 σ) (fun r1 s1 => some (r1, s1))) else (z_bd (fX0_who 7 l3 σ) (fun r2 s2 => z_bd (fX0_trait 7 (3 : Int32) r2 s2) (fun r3 s3 => fX5_mean_28  q l1 (l2 + r3) (l3 + 1) s3)))
theorem kX5_mean_28 (D : Nat)   (hD : 2 ≤ D) : ∀ (q : Nat) (l1 : Int32) (l2 : Int32) (l3 : Int32)  (σ : z_Mem), z_Go YC mX5_mean (D + 1) z_l 28 [some (zR 0), some (zI l1), some (zI l2), some (zI l3)] [] σ (fX5_mean_28 q l1 l2 l3 σ) := by
  intro q
  induction q with
  | zero => intros; exact z_none
  | succ q ih =>
    intro l1 l2 l3 σ
    rw [fX5_mean_28]
    refine z_iload_n (pc := 28) dX5_mean_28 rfl rfl ?_
    refine z_aload_n (pc := 29) dX5_mean_29 rfl rfl ?_
    refine gfX5_2 (pc := 30) dX5_mean_30 yc_0 w_1_23 rfl ?_
    refine gfX0_6 (pc := 33) dX5_mean_33 yc_7 w_24_20 rfl ?_
    refine z_icmp_ge (tgt := 64) (pc := 36) dX5_mean_36 (by decide) (fun _ => ?_) (fun _ => ?_)
    · refine z_iload_n (pc := 64) dX5_mean_64 rfl rfl ?_
      refine z_aload_n (pc := 65) dX5_mean_65 rfl rfl ?_
      refine gfX5_2 (pc := 66) dX5_mean_66 yc_0 w_1_23 rfl ?_
      refine gfX0_6 (pc := 69) dX5_mean_69 yc_7 w_24_20 rfl ?_
      refine z_iload_n (pc := 72) dX5_mean_72 rfl rfl ?_
      refine z_S3l (pc := 73) dX5_mean_73 lSX5_177 (Nat.le_of_ble_eq_true rfl) (kX5_lowestTerm l2 (σ.1 7 6) l1 σ D (by omega)) (fun r1 s1 => ?_)
      exact z_lret (pc := 76) dX5_mean_76 rfl
    · refine z_iload_n (pc := 39) dX5_mean_39 rfl rfl ?_
      refine z_aload_n (pc := 40) dX5_mean_40 rfl rfl ?_
      refine gfX5_2 (pc := 41) dX5_mean_41 yc_0 w_1_23 rfl ?_
      refine z_iconst_3 (pc := 44) dX5_mean_44 ?_
      refine z_aload_n (pc := 45) dX5_mean_45 rfl rfl ?_
      refine gfX5_2 (pc := 46) dX5_mean_46 yc_0 w_1_23 rfl ?_
      refine z_iload_n (pc := 49) dX5_mean_49 rfl rfl ?_
      refine z_V1i (pc := 50) dX5_mean_50 lVX5_96 yc_7 rfl (Nat.le_of_ble_eq_true rfl) (kX0_who 7 z_lm_7 l3 σ D (by omega)) (fun r2 s2 => ?_)
      refine z_V2i (pc := 53) dX5_mean_53 lVX5_78 yc_7 rfl (Nat.le_of_ble_eq_true rfl) (kX0_trait 7 z_lm_7 (3 : Int32) r2 s2 D (by omega)) (fun r3 s3 => ?_)
      refine z_iadd (pc := 56) dX5_mean_56 ?_
      refine z_istore_n (pc := 57) dX5_mean_57 rfl (Nat.le_of_ble_eq_true rfl) (z_so4_2 rfl) ?_
      refine z_iinc (y := 1) (pc := 58) dX5_mean_58 rfl (by decide) (Nat.le_of_ble_eq_true rfl) (z_so4_3 rfl) ?_
      refine z_goto (tgt := 28) (pc := 61) dX5_mean_61 (by decide) ?_
      exact ih l1 (l2 + r3) (l3 + 1) s3
def fX5_mean  (a1 : Int32) (σ : z_Mem) : Option (Int64 × z_Mem) :=
  if a1 = 0 then (if (1 : Int32) ≤ σ.1 7 6 then (fX5_mean_28 z_FU a1 (0 : Int32) (0 : Int32) σ) else (some ((-4611686018427387904 : Int64), σ))) else (if a1 = (1 : Int32) then (if (1 : Int32) ≤ σ.1 7 6 then (fX5_mean_28 z_FU a1 (0 : Int32) (0 : Int32) σ) else (some ((-4611686018427387904 : Int64), σ))) else (some ((-4611686018427387904 : Int64), σ)))
theorem kX5_mean   (a1 : Int32) (σ : z_Mem) (D : Nat) (hD : 3 ≤ D) : z_Call YC mX5_mean D z_l [zR 0, zI a1] σ (fX5_mean a1 σ) := by
  obtain ⟨D, rfl⟩ : ∃ E, D = E + 1 := ⟨D - 1, by omega⟩
  replace hD : 2 ≤ D := by omega
  refine z_entry (lv := [some (zR 0), some (zI a1), none, none]) (by decide) rfl (Nat.le_of_ble_eq_true rfl) rfl ?_
  rw [fX5_mean]
  refine z_iload_n (pc := 0) dX5_mean_0 rfl rfl ?_
  refine z_if_eq (tgt := 9) (pc := 1) dX5_mean_1 (by decide) (fun _ => ?_) (fun _ => ?_)
  · refine z_aload_n (pc := 9) dX5_mean_9 rfl rfl ?_
    refine gfX5_2 (pc := 10) dX5_mean_10 yc_0 w_1_23 rfl ?_
    refine gfX0_6 (pc := 13) dX5_mean_13 yc_7 w_24_20 rfl ?_
    refine z_iconst_1 (pc := 16) dX5_mean_16 ?_
    refine z_icmp_ge (tgt := 24) (pc := 17) dX5_mean_17 (by decide) (fun _ => ?_) (fun _ => ?_)
    · refine z_iconst_0 (pc := 24) dX5_mean_24 ?_
      refine z_istore_n (pc := 25) dX5_mean_25 rfl (Nat.le_of_ble_eq_true rfl) (z_so4_2 rfl) ?_
      refine z_iconst_0 (pc := 26) dX5_mean_26 ?_
      refine z_istore_n (pc := 27) dX5_mean_27 rfl (Nat.le_of_ble_eq_true rfl) (z_so4_3 rfl) ?_
      exact kX5_mean_28 D  hD z_FU a1 (0 : Int32) (0 : Int32) σ
    · refine z_ldc2 (v := -4611686018427387904) (pc := 20) dX5_mean_20 w_34_0 ?_
      exact z_lret (pc := 23) dX5_mean_23 rfl
  · refine z_iload_n (pc := 4) dX5_mean_4 rfl rfl ?_
    refine z_iconst_1 (pc := 5) dX5_mean_5 ?_
    refine z_icmp_ne (tgt := 20) (pc := 6) dX5_mean_6 (by decide) (fun _ => ?_) (fun _ => ?_)
    · refine z_ldc2 (v := -4611686018427387904) (pc := 20) dX5_mean_20 w_34_0 ?_
      exact z_lret (pc := 23) dX5_mean_23 rfl
    · refine z_aload_n (pc := 9) dX5_mean_9 rfl rfl ?_
      refine gfX5_2 (pc := 10) dX5_mean_10 yc_0 w_1_23 rfl ?_
      refine gfX0_6 (pc := 13) dX5_mean_13 yc_7 w_24_20 rfl ?_
      refine z_iconst_1 (pc := 16) dX5_mean_16 ?_
      refine z_icmp_ge (tgt := 24) (pc := 17) dX5_mean_17 (by decide) (fun _ => ?_) (fun _ => ?_)
      · refine z_iconst_0 (pc := 24) dX5_mean_24 ?_
        refine z_istore_n (pc := 25) dX5_mean_25 rfl (Nat.le_of_ble_eq_true rfl) (z_so4_2 rfl) ?_
        refine z_iconst_0 (pc := 26) dX5_mean_26 ?_
        refine z_istore_n (pc := 27) dX5_mean_27 rfl (Nat.le_of_ble_eq_true rfl) (z_so4_3 rfl) ?_
        exact kX5_mean_28 D  hD z_FU a1 (0 : Int32) (0 : Int32) σ
      · refine z_ldc2 (v := -4611686018427387904) (pc := 20) dX5_mean_20 w_34_0 ?_
        exact z_lret (pc := 23) dX5_mean_23 rfl
def fX5_readBack_66 (a1 : Nat) : Nat → Int32 → Int32 → Int32 → Int32 → Int32 → Int32 → Int32 → Int32 → z_Mem → Option (Int32 × z_Mem)
  | 0, _, _, _, _, _, _, _, _, _ => none
  | q + 1, l2, l3, l4, l5, l6, l7, l8, l9, σ => if l5 ≤ l9 then (if l3 = 3 then (some (l7, σ)) else if l3 = 4 then (some (l8, σ)) else if l3 = 5 then (some (l7, σ)) else if l3 = 6 then (some (l8, σ)) else some (l6, σ)) else (z_bd (fX0_suppose 12 l4 l2 l9 σ) (fun _ s4 => z_bd (fX0_firstUnlike 12 a1 s4) (fun r5 s5 => if r5 = (-1 : Int32) then (if l8 = (-1 : Int32) then (fX5_readBack_66 a1 q l2 l3 l4 l5 (l6 ||| ((1 : Int32) <<< (l9 &&& 31))) (l7 + 1) l9 (l9 + 1) s5) else (fX5_readBack_66 a1 q l2 l3 l4 l5 (l6 ||| ((1 : Int32) <<< (l9 &&& 31))) (l7 + 1) l8 (l9 + 1) s5)) else (fX5_readBack_66 a1 q l2 l3 l4 l5 l6 l7 l8 (l9 + 1) s5))))
theorem kX5_readBack_66 (D : Nat) (a1 : Nat) (ha1 : z_ls a1) (hD : 5 ≤ D) : ∀ (q : Nat) (l2 : Int32) (l3 : Int32) (l4 : Int32) (l5 : Int32) (l6 : Int32) (l7 : Int32) (l8 : Int32) (l9 : Int32)  (σ : z_Mem), z_Go YC mX5_readBack (D + 1) z_i 66 [some (zR 0), some (zR a1), some (zI l2), some (zI l3), some (zI l4), some (zI l5), some (zI l6), some (zI l7), some (zI l8), some (zI l9)] [] σ (fX5_readBack_66 a1 q l2 l3 l4 l5 l6 l7 l8 l9 σ) := by
  intro q
  induction q with
  | zero => intros; exact z_none
  | succ q ih =>
    intro l2 l3 l4 l5 l6 l7 l8 l9 σ
    rw [fX5_readBack_66]
    refine z_iload (pc := 66) dX5_readBack_66 rfl ?_
    refine z_iload (pc := 68) dX5_readBack_68 rfl ?_
    refine z_icmp_ge (tgt := 130) (pc := 70) dX5_readBack_70 (by decide) (fun _ => ?_) (fun _ => ?_)
    · refine z_iload_n (pc := 130) dX5_readBack_130 rfl rfl ?_
      refine z_tswC (n := 3) (off := 29) (tgt := 160) (pc := 131) dX5_readBack_131 (by decide) (by decide) (by decide) (by decide) ?_ (fun h0 => ?_)
      · refine z_iload (pc := 160) dX5_readBack_160 rfl ?_
        exact z_iret (pc := 162) dX5_readBack_162 rfl rfl
      · refine z_tswC (n := 4) (off := 32) (tgt := 163) (pc := 131) dX5_readBack_131 (by decide) (by decide) (by decide) (by decide) ?_ (fun h1 => ?_)
        · refine z_iload (pc := 163) dX5_readBack_163 rfl ?_
          exact z_iret (pc := 165) dX5_readBack_165 rfl rfl
        · refine z_tswC (n := 5) (off := 29) (tgt := 160) (pc := 131) dX5_readBack_131 (by decide) (by decide) (by decide) (by decide) ?_ (fun h2 => ?_)
          · refine z_iload (pc := 160) dX5_readBack_160 rfl ?_
            exact z_iret (pc := 162) dX5_readBack_162 rfl rfl
          · refine z_tswC (n := 6) (off := 32) (tgt := 163) (pc := 131) dX5_readBack_131 (by decide) (by decide) (by decide) (by decide) ?_ (fun h3 => ?_)
            · refine z_iload (pc := 163) dX5_readBack_163 rfl ?_
              exact z_iret (pc := 165) dX5_readBack_165 rfl rfl
            · refine z_tswD (tgt := 166) (pc := 131) dX5_readBack_131 (by have t0 := lv_neT h0 (a := 3) rfl; have t1 := lv_neT h1 (a := 4) rfl; have t2 := lv_neT h2 (a := 5) rfl; have t3 := lv_neT h3 (a := 6) rfl; omega) (by decide) ?_
              refine z_iload (pc := 166) dX5_readBack_166 rfl ?_
              exact z_iret (pc := 168) dX5_readBack_168 rfl rfl
    · refine z_aload_n (pc := 73) dX5_readBack_73 rfl rfl ?_
      refine gfX5_3 (pc := 74) dX5_readBack_74 yc_0 w_2_0 rfl ?_
      refine z_iload (pc := 77) dX5_readBack_77 rfl ?_
      refine z_iload_n (pc := 79) dX5_readBack_79 rfl rfl ?_
      refine z_iload (pc := 80) dX5_readBack_80 rfl ?_
      refine z_V3u (pc := 82) dX5_readBack_82 lVX5_82 yc_12 rfl (Nat.le_of_ble_eq_true rfl) (kX0_suppose 12 z_lm_12 l4 l2 l9 σ D (by omega)) (fun _ s4 => ?_)
      refine z_aload_n (pc := 85) dX5_readBack_85 rfl rfl ?_
      refine gfX5_3 (pc := 86) dX5_readBack_86 yc_0 w_2_0 rfl ?_
      refine z_aload_n (pc := 89) dX5_readBack_89 rfl rfl ?_
      refine z_V1i (pc := 90) dX5_readBack_90 lVX5_188 yc_12 rfl (Nat.le_of_ble_eq_true rfl) (kX0_firstUnlike 12 a1 z_lm_12 ha1 s4 D (by omega)) (fun r5 s5 => ?_)
      refine z_iconst_m1 (pc := 93) dX5_readBack_93 ?_
      refine z_icmp_ne (tgt := 124) (pc := 94) dX5_readBack_94 (by decide) (fun _ => ?_) (fun _ => ?_)
      · refine z_iinc (y := 1) (pc := 124) dX5_readBack_124 rfl (by decide) (Nat.le_of_ble_eq_true rfl) (z_so10_9 rfl) ?_
        refine z_goto (tgt := 66) (pc := 127) dX5_readBack_127 (by decide) ?_
        exact ih l2 l3 l4 l5 l6 l7 l8 (l9 + 1) s5
      · refine z_iload (pc := 97) dX5_readBack_97 rfl ?_
        refine z_iconst_1 (pc := 99) dX5_readBack_99 ?_
        refine z_iload (pc := 100) dX5_readBack_100 rfl ?_
        refine z_ishl (pc := 102) dX5_readBack_102 ?_
        refine z_ior (pc := 103) dX5_readBack_103 ?_
        refine z_istore (pc := 104) dX5_readBack_104 (Nat.le_of_ble_eq_true rfl) (z_so10_6 rfl) ?_
        refine z_iinc (y := 1) (pc := 106) dX5_readBack_106 rfl (by decide) (Nat.le_of_ble_eq_true rfl) (z_so10_7 rfl) ?_
        refine z_iload (pc := 109) dX5_readBack_109 rfl ?_
        refine z_iconst_m1 (pc := 111) dX5_readBack_111 ?_
        refine z_icmp_ne (tgt := 120) (pc := 112) dX5_readBack_112 (by decide) (fun _ => ?_) (fun _ => ?_)
        · refine z_iload (pc := 120) dX5_readBack_120 rfl ?_
          refine z_istore (pc := 122) dX5_readBack_122 (Nat.le_of_ble_eq_true rfl) (z_so10_8 rfl) ?_
          refine z_iinc (y := 1) (pc := 124) dX5_readBack_124 rfl (by decide) (Nat.le_of_ble_eq_true rfl) (z_so10_9 rfl) ?_
          refine z_goto (tgt := 66) (pc := 127) dX5_readBack_127 (by decide) ?_
          exact ih l2 l3 l4 l5 (l6 ||| ((1 : Int32) <<< (l9 &&& 31))) (l7 + 1) l8 (l9 + 1) s5
        · refine z_iload (pc := 115) dX5_readBack_115 rfl ?_
          refine z_goto (tgt := 122) (pc := 117) dX5_readBack_117 (by decide) ?_
          refine z_istore (pc := 122) dX5_readBack_122 (Nat.le_of_ble_eq_true rfl) (z_so10_8 rfl) ?_
          refine z_iinc (y := 1) (pc := 124) dX5_readBack_124 rfl (by decide) (Nat.le_of_ble_eq_true rfl) (z_so10_9 rfl) ?_
          refine z_goto (tgt := 66) (pc := 127) dX5_readBack_127 (by decide) ?_
          exact ih l2 l3 l4 l5 (l6 ||| ((1 : Int32) <<< (l9 &&& 31))) (l7 + 1) l9 (l9 + 1) s5
def fX5_readBack (a1 : Nat) (a2 : Int32) (a3 : Int32) (σ : z_Mem) : Option (Int32 × z_Mem) :=
  z_bd (fX5_traitReadBack a3 σ) (fun r1 s1 => if r1 = (4 : Int32) then (z_bd (fX0_takeFrom 12 7 s1) (fun _ s7 => fX5_readBack_66 a1 z_FU a2 a3 r1 (6 : Int32) (0 : Int32) (0 : Int32) (-1 : Int32) (0 : Int32) s7)) else (if r1 = (9 : Int32) then (z_bd (fX0_takeFrom 12 7 s1) (fun _ s6 => fX5_readBack_66 a1 z_FU a2 a3 r1 (s1.1 1 3) (0 : Int32) (0 : Int32) (-1 : Int32) (0 : Int32) s6)) else (z_bd (fX5_greatest r1 s1) (fun r2 s2 => z_bd (fX0_takeFrom 12 7 s2) (fun _ s3 => fX5_readBack_66 a1 z_FU a2 a3 r1 (r2 + (1 : Int32)) (0 : Int32) (0 : Int32) (-1 : Int32) (0 : Int32) s3)))))
theorem kX5_readBack (a1 : Nat) (ha1 : z_ls a1) (a2 : Int32) (a3 : Int32) (σ : z_Mem) (D : Nat) (hD : 6 ≤ D) : z_Call YC mX5_readBack D z_i [zR 0, zR a1, zI a2, zI a3] σ (fX5_readBack a1 a2 a3 σ) := by
  obtain ⟨D, rfl⟩ : ∃ E, D = E + 1 := ⟨D - 1, by omega⟩
  replace hD : 5 ≤ D := by omega
  refine z_entry (lv := [some (zR 0), some (zR a1), some (zI a2), some (zI a3), none, none, none, none, none, none]) (by decide) rfl (Nat.le_of_ble_eq_true rfl) rfl ?_
  rw [fX5_readBack]
  refine z_iload_n (pc := 0) dX5_readBack_0 rfl rfl ?_
  refine z_S1i (pc := 1) dX5_readBack_1 lSX5_230 (Nat.le_of_ble_eq_true rfl) (kX5_traitReadBack a3 σ D (by omega)) (fun r1 s1 => ?_)
  refine z_istore (pc := 4) dX5_readBack_4 (Nat.le_of_ble_eq_true rfl) (z_so10_4 rfl) ?_
  refine z_iload (pc := 6) dX5_readBack_6 rfl ?_
  refine z_iconst_4 (pc := 8) dX5_readBack_8 ?_
  refine z_icmp_ne (tgt := 17) (pc := 9) dX5_readBack_9 (by decide) (fun _ => ?_) (fun _ => ?_)
  · refine z_iload (pc := 17) dX5_readBack_17 rfl ?_
    refine z_bipush_9 (pc := 19) dX5_readBack_19 ?_
    refine z_icmp_ne (tgt := 34) (pc := 21) dX5_readBack_21 (by decide) (fun _ => ?_) (fun _ => ?_)
    · refine z_iload (pc := 34) dX5_readBack_34 rfl ?_
      refine z_S1i (pc := 36) dX5_readBack_36 lSX5_71 (Nat.le_of_ble_eq_true rfl) (kX5_greatest r1 s1 D (by omega)) (fun r2 s2 => ?_)
      refine z_iconst_1 (pc := 39) dX5_readBack_39 ?_
      refine z_iadd (pc := 40) dX5_readBack_40 ?_
      refine z_istore (pc := 41) dX5_readBack_41 (Nat.le_of_ble_eq_true rfl) (z_so10_5 rfl) ?_
      refine z_iconst_0 (pc := 43) dX5_readBack_43 ?_
      refine z_istore (pc := 44) dX5_readBack_44 (Nat.le_of_ble_eq_true rfl) (z_so10_6 rfl) ?_
      refine z_iconst_0 (pc := 46) dX5_readBack_46 ?_
      refine z_istore (pc := 47) dX5_readBack_47 (Nat.le_of_ble_eq_true rfl) (z_so10_7 rfl) ?_
      refine z_iconst_m1 (pc := 49) dX5_readBack_49 ?_
      refine z_istore (pc := 50) dX5_readBack_50 (Nat.le_of_ble_eq_true rfl) (z_so10_8 rfl) ?_
      refine z_aload_n (pc := 52) dX5_readBack_52 rfl rfl ?_
      refine gfX5_3 (pc := 53) dX5_readBack_53 yc_0 w_2_0 rfl ?_
      refine z_aload_n (pc := 56) dX5_readBack_56 rfl rfl ?_
      refine gfX5_2 (pc := 57) dX5_readBack_57 yc_0 w_1_23 rfl ?_
      refine z_V1u (pc := 60) dX5_readBack_60 lVX5_153 yc_12 rfl (Nat.le_of_ble_eq_true rfl) (kX0_takeFrom 12 7 z_lm_12 z_lm_7 s2 D (by omega)) (fun _ s3 => ?_)
      refine z_iconst_0 (pc := 63) dX5_readBack_63 ?_
      refine z_istore (pc := 64) dX5_readBack_64 (Nat.le_of_ble_eq_true rfl) (z_so10_9 rfl) ?_
      exact kX5_readBack_66 D a1 ha1 hD z_FU a2 a3 r1 (r2 + (1 : Int32)) (0 : Int32) (0 : Int32) (-1 : Int32) (0 : Int32) s3
    · refine z_aload_n (pc := 24) dX5_readBack_24 rfl rfl ?_
      refine gfX5_0 (pc := 25) dX5_readBack_25 yc_0 w_1_15 rfl ?_
      refine gfX4_3 (pc := 28) dX5_readBack_28 yc_1 w_23_10 rfl ?_
      refine z_goto (tgt := 41) (pc := 31) dX5_readBack_31 (by decide) ?_
      refine z_istore (pc := 41) dX5_readBack_41 (Nat.le_of_ble_eq_true rfl) (z_so10_5 rfl) ?_
      refine z_iconst_0 (pc := 43) dX5_readBack_43 ?_
      refine z_istore (pc := 44) dX5_readBack_44 (Nat.le_of_ble_eq_true rfl) (z_so10_6 rfl) ?_
      refine z_iconst_0 (pc := 46) dX5_readBack_46 ?_
      refine z_istore (pc := 47) dX5_readBack_47 (Nat.le_of_ble_eq_true rfl) (z_so10_7 rfl) ?_
      refine z_iconst_m1 (pc := 49) dX5_readBack_49 ?_
      refine z_istore (pc := 50) dX5_readBack_50 (Nat.le_of_ble_eq_true rfl) (z_so10_8 rfl) ?_
      refine z_aload_n (pc := 52) dX5_readBack_52 rfl rfl ?_
      refine gfX5_3 (pc := 53) dX5_readBack_53 yc_0 w_2_0 rfl ?_
      refine z_aload_n (pc := 56) dX5_readBack_56 rfl rfl ?_
      refine gfX5_2 (pc := 57) dX5_readBack_57 yc_0 w_1_23 rfl ?_
      refine z_V1u (pc := 60) dX5_readBack_60 lVX5_153 yc_12 rfl (Nat.le_of_ble_eq_true rfl) (kX0_takeFrom 12 7 z_lm_12 z_lm_7 s1 D (by omega)) (fun _ s6 => ?_)
      refine z_iconst_0 (pc := 63) dX5_readBack_63 ?_
      refine z_istore (pc := 64) dX5_readBack_64 (Nat.le_of_ble_eq_true rfl) (z_so10_9 rfl) ?_
      exact kX5_readBack_66 D a1 ha1 hD z_FU a2 a3 r1 (s1.1 1 3) (0 : Int32) (0 : Int32) (-1 : Int32) (0 : Int32) s6
  · refine z_bipush_6 (pc := 12) dX5_readBack_12 ?_
    refine z_goto (tgt := 41) (pc := 14) dX5_readBack_14 (by decide) ?_
    refine z_istore (pc := 41) dX5_readBack_41 (Nat.le_of_ble_eq_true rfl) (z_so10_5 rfl) ?_
    refine z_iconst_0 (pc := 43) dX5_readBack_43 ?_
    refine z_istore (pc := 44) dX5_readBack_44 (Nat.le_of_ble_eq_true rfl) (z_so10_6 rfl) ?_
    refine z_iconst_0 (pc := 46) dX5_readBack_46 ?_
    refine z_istore (pc := 47) dX5_readBack_47 (Nat.le_of_ble_eq_true rfl) (z_so10_7 rfl) ?_
    refine z_iconst_m1 (pc := 49) dX5_readBack_49 ?_
    refine z_istore (pc := 50) dX5_readBack_50 (Nat.le_of_ble_eq_true rfl) (z_so10_8 rfl) ?_
    refine z_aload_n (pc := 52) dX5_readBack_52 rfl rfl ?_
    refine gfX5_3 (pc := 53) dX5_readBack_53 yc_0 w_2_0 rfl ?_
    refine z_aload_n (pc := 56) dX5_readBack_56 rfl rfl ?_
    refine gfX5_2 (pc := 57) dX5_readBack_57 yc_0 w_1_23 rfl ?_
    refine z_V1u (pc := 60) dX5_readBack_60 lVX5_153 yc_12 rfl (Nat.le_of_ble_eq_true rfl) (kX0_takeFrom 12 7 z_lm_12 z_lm_7 s1 D (by omega)) (fun _ s7 => ?_)
    refine z_iconst_0 (pc := 63) dX5_readBack_63 ?_
    refine z_istore (pc := 64) dX5_readBack_64 (Nat.le_of_ble_eq_true rfl) (z_so10_9 rfl) ?_
    exact kX5_readBack_66 D a1 ha1 hD z_FU a2 a3 r1 (6 : Int32) (0 : Int32) (0 : Int32) (-1 : Int32) (0 : Int32) s7
def fX5_tells  (a1 : Int32) (a2 : Int32) (a3 : Int32) (σ : z_Mem) : Option (Int32 × z_Mem) :=
  z_bd (fX5_isSheet a1 σ) (fun r1 s1 => if r1 = 0 then (some ((-2 : Int32), s1)) else (z_bd (fX0_has 7 a2 s1) (fun r2 s2 => if r2 = 0 then (some ((-2 : Int32), s2)) else (if a3 < 0 then (some ((-2 : Int32), s2)) else (if a3 ≤ (7 : Int32) then (z_gd (z_in a1 4) (if s2.1 (28 + 2 * z_x a1) 1 = (-1 : Int32) then (some ((-11 : Int32), s2)) else (if s2.1 (28 + 2 * z_x a1) 2 ≤ (6 : Int32) then (if a3 = 0 then (z_bd (fX0_firstUnlike 7 (28 + 2 * z_x a1) s2) (fun r5 s5 => some (r5, s5))) else (z_bd (fX5_readBack (28 + 2 * z_x a1) a2 a3 s2) (fun r4 s4 => some (r4, s4)))) else (some ((-2 : Int32), s2))))) else (some ((-2 : Int32), s2)))))))
theorem kX5_tells   (a1 : Int32) (a2 : Int32) (a3 : Int32) (σ : z_Mem) (D : Nat) (hD : 7 ≤ D) : z_Call YC mX5_tells D z_i [zR 0, zI a1, zI a2, zI a3] σ (fX5_tells a1 a2 a3 σ) := by
  obtain ⟨D, rfl⟩ : ∃ E, D = E + 1 := ⟨D - 1, by omega⟩
  replace hD : 6 ≤ D := by omega
  refine z_entry (lv := [some (zR 0), some (zI a1), some (zI a2), some (zI a3), none]) (by decide) rfl (Nat.le_of_ble_eq_true rfl) rfl ?_
  rw [fX5_tells]
  refine z_iload_n (pc := 0) dX5_tells_0 rfl rfl ?_
  refine z_S1i (pc := 1) dX5_tells_1 lSX5_181 (Nat.le_of_ble_eq_true rfl) (kX5_isSheet a1 σ D (by omega)) (fun r1 s1 => ?_)
  refine z_if_eq (tgt := 28) (pc := 4) dX5_tells_4 (by decide) (fun _ => ?_) (fun _ => ?_)
  · refine z_bipush_m2 (pc := 28) dX5_tells_28 ?_
    exact z_iret (pc := 30) dX5_tells_30 rfl rfl
  · refine z_aload_n (pc := 7) dX5_tells_7 rfl rfl ?_
    refine gfX5_2 (pc := 8) dX5_tells_8 yc_0 w_1_23 rfl ?_
    refine z_iload_n (pc := 11) dX5_tells_11 rfl rfl ?_
    refine z_V1i (pc := 12) dX5_tells_12 lVX5_75 yc_7 rfl (Nat.le_of_ble_eq_true rfl) (kX0_has 7 z_lm_7 a2 s1 D (by omega)) (fun r2 s2 => ?_)
    refine z_if_eq (tgt := 28) (pc := 15) dX5_tells_15 (by decide) (fun _ => ?_) (fun _ => ?_)
    · refine z_bipush_m2 (pc := 28) dX5_tells_28 ?_
      exact z_iret (pc := 30) dX5_tells_30 rfl rfl
    · refine z_iload_n (pc := 18) dX5_tells_18 rfl rfl ?_
      refine z_if_lt (tgt := 28) (pc := 19) dX5_tells_19 (by decide) (fun _ => ?_) (fun _ => ?_)
      · refine z_bipush_m2 (pc := 28) dX5_tells_28 ?_
        exact z_iret (pc := 30) dX5_tells_30 rfl rfl
      · refine z_iload_n (pc := 22) dX5_tells_22 rfl rfl ?_
        refine z_bipush_7 (pc := 23) dX5_tells_23 ?_
        refine z_icmp_le (tgt := 31) (pc := 25) dX5_tells_25 (by decide) (fun _ => ?_) (fun _ => ?_)
        · refine z_aload_n (pc := 31) dX5_tells_31 rfl rfl ?_
          refine gfX5_6 (pc := 32) dX5_tells_32 yc_0 w_2_7 rfl ?_
          refine z_iload_n (pc := 35) dX5_tells_35 rfl rfl ?_
          refine z_aald (pc := 36) dX5_tells_36 yc_27 (fun g3 => ?_)
          refine z_astore (pc := 37) dX5_tells_37 (Nat.le_of_ble_eq_true rfl) (z_so5_4 rfl) ?_
          refine z_aload (pc := 39) dX5_tells_39 rfl ?_
          refine gfX3_1 (pc := 41) dX5_tells_41 ((z_ls_at g3).1) w_34_16 rfl ?_
          refine z_iconst_m1 (pc := 44) dX5_tells_44 ?_
          refine z_icmp_ne (tgt := 51) (pc := 45) dX5_tells_45 (by decide) (fun _ => ?_) (fun _ => ?_)
          · refine z_aload (pc := 51) dX5_tells_51 rfl ?_
            refine gfX3_2 (pc := 53) dX5_tells_53 ((z_ls_at g3).1) w_34_17 rfl ?_
            refine z_bipush_6 (pc := 56) dX5_tells_56 ?_
            refine z_icmp_le (tgt := 64) (pc := 58) dX5_tells_58 (by decide) (fun _ => ?_) (fun _ => ?_)
            · refine z_iload_n (pc := 64) dX5_tells_64 rfl rfl ?_
              refine z_if_ne (tgt := 80) (pc := 65) dX5_tells_65 (by decide) (fun _ => ?_) (fun _ => ?_)
              · refine z_aload_n (pc := 80) dX5_tells_80 rfl rfl ?_
                refine z_aload (pc := 81) dX5_tells_81 rfl ?_
                refine z_iload_n (pc := 83) dX5_tells_83 rfl rfl ?_
                refine z_iload_n (pc := 84) dX5_tells_84 rfl rfl ?_
                refine z_V3i (pc := 85) dX5_tells_85 lVX5_192 yc_0 rfl (Nat.le_of_ble_eq_true rfl) (kX5_readBack (28 + 2 * z_x a1) (z_ls_at g3) a2 a3 s2 D (by omega)) (fun r4 s4 => ?_)
                exact z_iret (pc := 88) dX5_tells_88 rfl rfl
              · refine z_aload_n (pc := 68) dX5_tells_68 rfl rfl ?_
                refine gfX5_2 (pc := 69) dX5_tells_69 yc_0 w_1_23 rfl ?_
                refine z_aload (pc := 72) dX5_tells_72 rfl ?_
                refine z_V1i (pc := 74) dX5_tells_74 lVX5_188 yc_7 rfl (Nat.le_of_ble_eq_true rfl) (kX0_firstUnlike 7 (28 + 2 * z_x a1) z_lm_7 (z_ls_at g3) s2 D (by omega)) (fun r5 s5 => ?_)
                refine z_goto (tgt := 88) (pc := 77) dX5_tells_77 (by decide) ?_
                exact z_iret (pc := 88) dX5_tells_88 rfl rfl
            · refine z_bipush_m2 (pc := 61) dX5_tells_61 ?_
              exact z_iret (pc := 63) dX5_tells_63 rfl rfl
          · refine z_bipush_m11 (pc := 48) dX5_tells_48 ?_
            exact z_iret (pc := 50) dX5_tells_50 rfl rfl
        · refine z_bipush_m2 (pc := 28) dX5_tells_28 ?_
          exact z_iret (pc := 30) dX5_tells_30 rfl rfl
def fX5_film_34  : Nat → Int32 → Nat → Int32 → z_Mem → Option (Int32 × z_Mem)
  | 0, _, _, _, _ => none
  | q + 1, l2, l3, l4, σ => if l2 ≤ l4 then (some (l2, σ)) else (z_bd (fX0_holdFrom 7 l4 σ) (fun r5 s5 => z_bd (fX3_put l3 l4 r5 s5) (fun _ s6 => fX5_film_34  q l2 l3 (l4 + 1) s6)))
theorem kX5_film_34 (D : Nat)   (hD : 4 ≤ D) : ∀ (q : Nat) (l2 : Int32) (l3 : Nat) (l4 : Int32) (hl3 : z_ls l3) (σ : z_Mem), z_Go YC mX5_film (D + 1) z_i 34 [some (zR 0), none, some (zI l2), some (zR l3), some (zI l4)] [] σ (fX5_film_34 q l2 l3 l4 σ) := by
  intro q
  induction q with
  | zero => intros; exact z_none
  | succ q ih =>
    intro l2 l3 l4 hl3 σ
    rw [fX5_film_34]
    refine z_iload (pc := 34) dX5_film_34 rfl ?_
    refine z_iload_n (pc := 36) dX5_film_36 rfl rfl ?_
    refine z_icmp_ge (tgt := 61) (pc := 37) dX5_film_37 (by decide) (fun _ => ?_) (fun _ => ?_)
    · refine z_iload_n (pc := 61) dX5_film_61 rfl rfl ?_
      exact z_iret (pc := 62) dX5_film_62 rfl rfl
    · refine z_aload_n (pc := 40) dX5_film_40 rfl rfl ?_
      refine z_iload (pc := 41) dX5_film_41 rfl ?_
      refine z_aload_n (pc := 43) dX5_film_43 rfl rfl ?_
      refine gfX5_2 (pc := 44) dX5_film_44 yc_0 w_1_23 rfl ?_
      refine z_iload (pc := 47) dX5_film_47 rfl ?_
      refine z_V1i (pc := 49) dX5_film_49 lVX5_102 yc_7 rfl (Nat.le_of_ble_eq_true rfl) (kX0_holdFrom 7 z_lm_7 l4 σ D (by omega)) (fun r5 s5 => ?_)
      refine z_V2u (pc := 52) dX5_film_52 lVX5_199 hl3.1 rfl (Nat.le_of_ble_eq_true rfl) (kX3_put l3 hl3 l4 r5 s5 D (by omega)) (fun _ s6 => ?_)
      refine z_iinc (y := 1) (pc := 55) dX5_film_55 rfl (by decide) (Nat.le_of_ble_eq_true rfl) (z_so5_4 rfl) ?_
      refine z_goto (tgt := 34) (pc := 58) dX5_film_58 (by decide) ?_
      exact ih l2 l3 (l4 + 1) hl3 s6
def fX5_film  (a1 : Int32) (σ : z_Mem) : Option (Int32 × z_Mem) :=
  z_bd (fX5_isSheet a1 σ) (fun r1 s1 => if r1 = 0 then (some ((-2 : Int32), s1)) else (z_bd (fX0_holds 7 s1) (fun r2 s2 => z_gd (z_in a1 4) (z_bd (fX3_become (28 + 2 * z_x a1) (0 : Int32) r2 s2) (fun _ s4 => fX5_film_34 z_FU r2 (28 + 2 * z_x a1) (0 : Int32) s4)))))
theorem kX5_film   (a1 : Int32) (σ : z_Mem) (D : Nat) (hD : 5 ≤ D) : z_Call YC mX5_film D z_i [zR 0, zI a1] σ (fX5_film a1 σ) := by
  obtain ⟨D, rfl⟩ : ∃ E, D = E + 1 := ⟨D - 1, by omega⟩
  replace hD : 4 ≤ D := by omega
  refine z_entry (lv := [some (zR 0), some (zI a1), none, none, none]) (by decide) rfl (Nat.le_of_ble_eq_true rfl) rfl ?_
  rw [fX5_film]
  refine z_iload_n (pc := 0) dX5_film_0 rfl rfl ?_
  refine z_S1i (pc := 1) dX5_film_1 lSX5_181 (Nat.le_of_ble_eq_true rfl) (kX5_isSheet a1 σ D (by omega)) (fun r1 s1 => ?_)
  refine z_if_ne (tgt := 10) (pc := 4) dX5_film_4 (by decide) (fun _ => ?_) (fun _ => ?_)
  · refine z_aload_n (pc := 10) dX5_film_10 rfl rfl ?_
    refine gfX5_2 (pc := 11) dX5_film_11 yc_0 w_1_23 rfl ?_
    refine z_V0i (pc := 14) dX5_film_14 lVX5_99 yc_7 rfl (Nat.le_of_ble_eq_true rfl) (kX0_holds 7 z_lm_7 s1 D (by omega)) (fun r2 s2 => ?_)
    refine z_istore_n (pc := 17) dX5_film_17 rfl (Nat.le_of_ble_eq_true rfl) (z_so5_2 rfl) ?_
    refine z_aload_n (pc := 18) dX5_film_18 rfl rfl ?_
    refine gfX5_6 (pc := 19) dX5_film_19 yc_0 w_2_7 rfl ?_
    refine z_iload_n (pc := 22) dX5_film_22 rfl rfl ?_
    refine z_aald (pc := 23) dX5_film_23 yc_27 (fun g3 => ?_)
    refine z_astore_n (pc := 24) dX5_film_24 rfl (Nat.le_of_ble_eq_true rfl) (z_so5_3 rfl) ?_
    refine z_aload_n (pc := 25) dX5_film_25 rfl rfl ?_
    refine z_iconst_0 (pc := 26) dX5_film_26 ?_
    refine z_iload_n (pc := 27) dX5_film_27 rfl rfl ?_
    refine z_V2u (pc := 28) dX5_film_28 lVX5_196 ((z_ls_at g3).1) rfl (Nat.le_of_ble_eq_true rfl) (kX3_become (28 + 2 * z_x a1) (z_ls_at g3) (0 : Int32) r2 s2 D (by omega)) (fun _ s4 => ?_)
    refine z_iconst_0 (pc := 31) dX5_film_31 ?_
    refine z_istore (pc := 32) dX5_film_32 (Nat.le_of_ble_eq_true rfl) (z_so5_4 rfl) ?_
    exact z_weak (lv' := [some (zR 0), none, some (zI r2), some (zR (28 + 2 * z_x a1)), some (zI (0 : Int32))]) (z_sub_ok ⟨rfl, rfl, rfl, rfl, trivial⟩) (kX5_film_34 D  hD z_FU r2 (28 + 2 * z_x a1) (0 : Int32) (z_ls_at g3) s4)
  · refine z_bipush_m2 (pc := 7) dX5_film_7 ?_
    exact z_iret (pc := 9) dX5_film_9 rfl rfl
def fX5_drawn  (a1 : Int32) (a2 : Int32) (σ : z_Mem) : Option (Int32 × z_Mem) :=
  if a2 < 0 then (some ((-2 : Int32), σ)) else (if a2 ≤ (40 : Int32) then (z_bd (fX1_look 7 σ) (fun _ s1 => z_bd (fX1_weakestDrawn a1 a2 s1) (fun r2 s2 => some (r2, s2)))) else (some ((-2 : Int32), σ)))
theorem kX5_drawn   (a1 : Int32) (a2 : Int32) (σ : z_Mem) (D : Nat) (hD : 5 ≤ D) : z_Call YC mX5_drawn D z_i [zR 0, zI a1, zI a2] σ (fX5_drawn a1 a2 σ) := by
  obtain ⟨D, rfl⟩ : ∃ E, D = E + 1 := ⟨D - 1, by omega⟩
  replace hD : 4 ≤ D := by omega
  refine z_entry (lv := [some (zR 0), some (zI a1), some (zI a2)]) (by decide) rfl (Nat.le_of_ble_eq_true rfl) rfl ?_
  rw [fX5_drawn]
  refine z_iload_n (pc := 0) dX5_drawn_0 rfl rfl ?_
  refine z_if_lt (tgt := 10) (pc := 1) dX5_drawn_1 (by decide) (fun _ => ?_) (fun _ => ?_)
  · refine z_bipush_m2 (pc := 10) dX5_drawn_10 ?_
    exact z_iret (pc := 12) dX5_drawn_12 rfl rfl
  · refine z_iload_n (pc := 4) dX5_drawn_4 rfl rfl ?_
    refine z_bipush_40 (pc := 5) dX5_drawn_5 ?_
    refine z_icmp_le (tgt := 13) (pc := 7) dX5_drawn_7 (by decide) (fun _ => ?_) (fun _ => ?_)
    · refine z_aload_n (pc := 13) dX5_drawn_13 rfl rfl ?_
      refine gfX5_5 (pc := 14) dX5_drawn_14 yc_0 w_2_5 rfl ?_
      refine z_aload_n (pc := 17) dX5_drawn_17 rfl rfl ?_
      refine gfX5_2 (pc := 18) dX5_drawn_18 yc_0 w_1_23 rfl ?_
      refine z_V1u (pc := 21) dX5_drawn_21 lVX5_157 yc_22 rfl (Nat.le_of_ble_eq_true rfl) (kX1_look 7 z_lm_7 σ D (by omega)) (fun _ s1 => ?_)
      refine z_aload_n (pc := 24) dX5_drawn_24 rfl rfl ?_
      refine gfX5_5 (pc := 25) dX5_drawn_25 yc_0 w_2_5 rfl ?_
      refine z_iload_n (pc := 28) dX5_drawn_28 rfl rfl ?_
      refine z_iload_n (pc := 29) dX5_drawn_29 rfl rfl ?_
      refine z_V2i (pc := 30) dX5_drawn_30 lVX5_202 yc_22 rfl (Nat.le_of_ble_eq_true rfl) (kX1_weakestDrawn a1 a2 s1 D (by omega)) (fun r2 s2 => ?_)
      exact z_iret (pc := 33) dX5_drawn_33 rfl rfl
    · refine z_bipush_m2 (pc := 10) dX5_drawn_10 ?_
      exact z_iret (pc := 12) dX5_drawn_12 rfl rfl
def fX5_chance_53  : Nat → Int32 → Int32 → Int32 → Int32 → Int32 → Int32 → z_Mem → Option (Int64 × z_Mem)
  | 0, _, _, _, _, _, _, _ => none
  | q + 1, l1, l2, l3, l4, l5, l6, σ => if l2 ≤ l6 then (z_bd (fX5_lowestTerm l5 l2 l4 σ) (fun r2 s2 => some (r2, s2))) else (z_bd (fX1_weakestDrawn (l1 + l6) (6 : Int32) σ) (fun r3 s3 => if r3 < l3 then (fX5_chance_53  q l1 l2 l3 l4 l5 (l6 + 1) s3) else (fX5_chance_53  q l1 l2 l3 l4 (l5 + 1) (l6 + 1) s3)))
theorem kX5_chance_53 (D : Nat)   (hD : 4 ≤ D) : ∀ (q : Nat) (l1 : Int32) (l2 : Int32) (l3 : Int32) (l4 : Int32) (l5 : Int32) (l6 : Int32)  (σ : z_Mem), z_Go YC mX5_chance (D + 1) z_l 53 [some (zR 0), some (zI l1), some (zI l2), some (zI l3), some (zI l4), some (zI l5), some (zI l6)] [] σ (fX5_chance_53 q l1 l2 l3 l4 l5 l6 σ) := by
  intro q
  induction q with
  | zero => intros; exact z_none
  | succ q ih =>
    intro l1 l2 l3 l4 l5 l6 σ
    rw [fX5_chance_53]
    refine z_iload (pc := 53) dX5_chance_53 rfl ?_
    refine z_iload_n (pc := 55) dX5_chance_55 rfl rfl ?_
    refine z_icmp_ge (tgt := 85) (pc := 56) dX5_chance_56 (by decide) (fun _ => ?_) (fun _ => ?_)
    · refine z_iload (pc := 85) dX5_chance_85 rfl ?_
      refine z_iload_n (pc := 87) dX5_chance_87 rfl rfl ?_
      refine z_iload (pc := 88) dX5_chance_88 rfl ?_
      refine z_S3l (pc := 90) dX5_chance_90 lSX5_177 (Nat.le_of_ble_eq_true rfl) (kX5_lowestTerm l5 l2 l4 σ D (by omega)) (fun r2 s2 => ?_)
      exact z_lret (pc := 93) dX5_chance_93 rfl
    · refine z_aload_n (pc := 59) dX5_chance_59 rfl rfl ?_
      refine gfX5_5 (pc := 60) dX5_chance_60 yc_0 w_2_5 rfl ?_
      refine z_iload_n (pc := 63) dX5_chance_63 rfl rfl ?_
      refine z_iload (pc := 64) dX5_chance_64 rfl ?_
      refine z_iadd (pc := 66) dX5_chance_66 ?_
      refine z_bipush_6 (pc := 67) dX5_chance_67 ?_
      refine z_V2i (pc := 69) dX5_chance_69 lVX5_202 yc_22 rfl (Nat.le_of_ble_eq_true rfl) (kX1_weakestDrawn (l1 + l6) (6 : Int32) σ D (by omega)) (fun r3 s3 => ?_)
      refine z_iload_n (pc := 72) dX5_chance_72 rfl rfl ?_
      refine z_icmp_lt (tgt := 79) (pc := 73) dX5_chance_73 (by decide) (fun _ => ?_) (fun _ => ?_)
      · refine z_iinc (y := 1) (pc := 79) dX5_chance_79 rfl (by decide) (Nat.le_of_ble_eq_true rfl) (z_so7_6 rfl) ?_
        refine z_goto (tgt := 53) (pc := 82) dX5_chance_82 (by decide) ?_
        exact ih l1 l2 l3 l4 l5 (l6 + 1) s3
      · refine z_iinc (y := 1) (pc := 76) dX5_chance_76 rfl (by decide) (Nat.le_of_ble_eq_true rfl) (z_so7_5 rfl) ?_
        refine z_iinc (y := 1) (pc := 79) dX5_chance_79 rfl (by decide) (Nat.le_of_ble_eq_true rfl) (z_so7_6 rfl) ?_
        refine z_goto (tgt := 53) (pc := 82) dX5_chance_82 (by decide) ?_
        exact ih l1 l2 l3 l4 (l5 + 1) (l6 + 1) s3
def fX5_chance  (a1 : Int32) (a2 : Int32) (a3 : Int32) (a4 : Int32) (σ : z_Mem) : Option (Int64 × z_Mem) :=
  if a2 < (1 : Int32) then (some ((-4611686018427387904 : Int64), σ)) else (if (40 : Int32) < a2 then (some ((-4611686018427387904 : Int64), σ)) else (if a3 < 0 then (some ((-4611686018427387904 : Int64), σ)) else (if (99 : Int32) < a3 then (some ((-4611686018427387904 : Int64), σ)) else (if a4 = 0 then (z_bd (fX1_look 7 σ) (fun _ s1 => fX5_chance_53 z_FU a1 a2 a3 a4 (0 : Int32) (0 : Int32) s1)) else (if a4 = (1 : Int32) then (z_bd (fX1_look 7 σ) (fun _ s4 => fX5_chance_53 z_FU a1 a2 a3 a4 (0 : Int32) (0 : Int32) s4)) else (some ((-4611686018427387904 : Int64), σ)))))))
theorem kX5_chance   (a1 : Int32) (a2 : Int32) (a3 : Int32) (a4 : Int32) (σ : z_Mem) (D : Nat) (hD : 5 ≤ D) : z_Call YC mX5_chance D z_l [zR 0, zI a1, zI a2, zI a3, zI a4] σ (fX5_chance a1 a2 a3 a4 σ) := by
  obtain ⟨D, rfl⟩ : ∃ E, D = E + 1 := ⟨D - 1, by omega⟩
  replace hD : 4 ≤ D := by omega
  refine z_entry (lv := [some (zR 0), some (zI a1), some (zI a2), some (zI a3), some (zI a4), none, none]) (by decide) rfl (Nat.le_of_ble_eq_true rfl) rfl ?_
  rw [fX5_chance]
  refine z_iload_n (pc := 0) dX5_chance_0 rfl rfl ?_
  refine z_iconst_1 (pc := 1) dX5_chance_1 ?_
  refine z_icmp_lt (tgt := 32) (pc := 2) dX5_chance_2 (by decide) (fun _ => ?_) (fun _ => ?_)
  · refine z_ldc2 (v := -4611686018427387904) (pc := 32) dX5_chance_32 w_34_0 ?_
    exact z_lret (pc := 35) dX5_chance_35 rfl
  · refine z_iload_n (pc := 5) dX5_chance_5 rfl rfl ?_
    refine z_bipush_40 (pc := 6) dX5_chance_6 ?_
    refine z_icmp_gt (tgt := 32) (pc := 8) dX5_chance_8 (by decide) (fun _ => ?_) (fun _ => ?_)
    · refine z_ldc2 (v := -4611686018427387904) (pc := 32) dX5_chance_32 w_34_0 ?_
      exact z_lret (pc := 35) dX5_chance_35 rfl
    · refine z_iload_n (pc := 11) dX5_chance_11 rfl rfl ?_
      refine z_if_lt (tgt := 32) (pc := 12) dX5_chance_12 (by decide) (fun _ => ?_) (fun _ => ?_)
      · refine z_ldc2 (v := -4611686018427387904) (pc := 32) dX5_chance_32 w_34_0 ?_
        exact z_lret (pc := 35) dX5_chance_35 rfl
      · refine z_iload_n (pc := 15) dX5_chance_15 rfl rfl ?_
        refine z_bipush_99 (pc := 16) dX5_chance_16 ?_
        refine z_icmp_gt (tgt := 32) (pc := 18) dX5_chance_18 (by decide) (fun _ => ?_) (fun _ => ?_)
        · refine z_ldc2 (v := -4611686018427387904) (pc := 32) dX5_chance_32 w_34_0 ?_
          exact z_lret (pc := 35) dX5_chance_35 rfl
        · refine z_iload (pc := 21) dX5_chance_21 rfl ?_
          refine z_if_eq (tgt := 36) (pc := 23) dX5_chance_23 (by decide) (fun _ => ?_) (fun _ => ?_)
          · refine z_aload_n (pc := 36) dX5_chance_36 rfl rfl ?_
            refine gfX5_5 (pc := 37) dX5_chance_37 yc_0 w_2_5 rfl ?_
            refine z_aload_n (pc := 40) dX5_chance_40 rfl rfl ?_
            refine gfX5_2 (pc := 41) dX5_chance_41 yc_0 w_1_23 rfl ?_
            refine z_V1u (pc := 44) dX5_chance_44 lVX5_157 yc_22 rfl (Nat.le_of_ble_eq_true rfl) (kX1_look 7 z_lm_7 σ D (by omega)) (fun _ s1 => ?_)
            refine z_iconst_0 (pc := 47) dX5_chance_47 ?_
            refine z_istore (pc := 48) dX5_chance_48 (Nat.le_of_ble_eq_true rfl) (z_so7_5 rfl) ?_
            refine z_iconst_0 (pc := 50) dX5_chance_50 ?_
            refine z_istore (pc := 51) dX5_chance_51 (Nat.le_of_ble_eq_true rfl) (z_so7_6 rfl) ?_
            exact kX5_chance_53 D  hD z_FU a1 a2 a3 a4 (0 : Int32) (0 : Int32) s1
          · refine z_iload (pc := 26) dX5_chance_26 rfl ?_
            refine z_iconst_1 (pc := 28) dX5_chance_28 ?_
            refine z_icmp_eq (tgt := 36) (pc := 29) dX5_chance_29 (by decide) (fun _ => ?_) (fun _ => ?_)
            · refine z_aload_n (pc := 36) dX5_chance_36 rfl rfl ?_
              refine gfX5_5 (pc := 37) dX5_chance_37 yc_0 w_2_5 rfl ?_
              refine z_aload_n (pc := 40) dX5_chance_40 rfl rfl ?_
              refine gfX5_2 (pc := 41) dX5_chance_41 yc_0 w_1_23 rfl ?_
              refine z_V1u (pc := 44) dX5_chance_44 lVX5_157 yc_22 rfl (Nat.le_of_ble_eq_true rfl) (kX1_look 7 z_lm_7 σ D (by omega)) (fun _ s4 => ?_)
              refine z_iconst_0 (pc := 47) dX5_chance_47 ?_
              refine z_istore (pc := 48) dX5_chance_48 (Nat.le_of_ble_eq_true rfl) (z_so7_5 rfl) ?_
              refine z_iconst_0 (pc := 50) dX5_chance_50 ?_
              refine z_istore (pc := 51) dX5_chance_51 (Nat.le_of_ble_eq_true rfl) (z_so7_6 rfl) ?_
              exact kX5_chance_53 D  hD z_FU a1 a2 a3 a4 (0 : Int32) (0 : Int32) s4
            · refine z_ldc2 (v := -4611686018427387904) (pc := 32) dX5_chance_32 w_34_0 ?_
              exact z_lret (pc := 35) dX5_chance_35 rfl
def fX5_image   (σ : z_Mem) : Option (Int32 × z_Mem) :=
  z_bd (fX0_takeFrom 17 7 σ) (fun _ s1 => z_st (z_pt s1 0 7 (1 : Int32)) (fun s2 => some (s2.1 7 5, s2)))
theorem kX5_image    (σ : z_Mem) (D : Nat) (hD : 2 ≤ D) : z_Call YC mX5_image D z_i [zR 0] σ (fX5_image σ) := by
  obtain ⟨D, rfl⟩ : ∃ E, D = E + 1 := ⟨D - 1, by omega⟩
  replace hD : 1 ≤ D := by omega
  refine z_entry (lv := [some (zR 0)]) (by decide) rfl (Nat.le_of_ble_eq_true rfl) rfl ?_
  rw [fX5_image]
  refine z_aload_n (pc := 0) dX5_image_0 rfl rfl ?_
  refine gfX5_4 (pc := 1) dX5_image_1 yc_0 w_2_1 rfl ?_
  refine z_aload_n (pc := 4) dX5_image_4 rfl rfl ?_
  refine gfX5_2 (pc := 5) dX5_image_5 yc_0 w_1_23 rfl ?_
  refine z_V1u (pc := 8) dX5_image_8 lVX5_153 yc_17 rfl (Nat.le_of_ble_eq_true rfl) (kX0_takeFrom 17 7 z_lm_17 z_lm_7 σ D (by omega)) (fun _ s1 => ?_)
  refine z_aload_n (pc := 11) dX5_image_11 rfl rfl ?_
  refine z_iconst_1 (pc := 12) dX5_image_12 ?_
  refine pfX5_7 (pc := 13) dX5_image_13 yc_0 w_38_6 (by decide) (by decide) rfl ?_
  refine z_let (fun s2 => ?_)
  refine z_aload_n (pc := 16) dX5_image_16 rfl rfl ?_
  refine gfX5_2 (pc := 17) dX5_image_17 yc_0 w_1_23 rfl ?_
  refine gfX0_5 (pc := 20) dX5_image_20 yc_7 w_32_3 rfl ?_
  exact z_iret (pc := 23) dX5_image_23 rfl rfl
def fX5_back   (σ : z_Mem) : Option (Int32 × z_Mem) :=
  if σ.1 0 7 = 0 then (some ((-3 : Int32), σ)) else (z_bd (fX0_takeFrom 7 17 σ) (fun _ s1 => some (s1.1 7 5, s1)))
theorem kX5_back    (σ : z_Mem) (D : Nat) (hD : 2 ≤ D) : z_Call YC mX5_back D z_i [zR 0] σ (fX5_back σ) := by
  obtain ⟨D, rfl⟩ : ∃ E, D = E + 1 := ⟨D - 1, by omega⟩
  replace hD : 1 ≤ D := by omega
  refine z_entry (lv := [some (zR 0)]) (by decide) rfl (Nat.le_of_ble_eq_true rfl) rfl ?_
  rw [fX5_back]
  refine z_aload_n (pc := 0) dX5_back_0 rfl rfl ?_
  refine gfX5_7 (pc := 1) dX5_back_1 yc_0 w_38_6 rfl ?_
  refine z_if_ne (tgt := 10) (pc := 4) dX5_back_4 (by decide) (fun _ => ?_) (fun _ => ?_)
  · refine z_aload_n (pc := 10) dX5_back_10 rfl rfl ?_
    refine gfX5_2 (pc := 11) dX5_back_11 yc_0 w_1_23 rfl ?_
    refine z_aload_n (pc := 14) dX5_back_14 rfl rfl ?_
    refine gfX5_4 (pc := 15) dX5_back_15 yc_0 w_2_1 rfl ?_
    refine z_V1u (pc := 18) dX5_back_18 lVX5_153 yc_7 rfl (Nat.le_of_ble_eq_true rfl) (kX0_takeFrom 7 17 z_lm_7 z_lm_17 σ D (by omega)) (fun _ s1 => ?_)
    refine z_aload_n (pc := 21) dX5_back_21 rfl rfl ?_
    refine gfX5_2 (pc := 22) dX5_back_22 yc_0 w_1_23 rfl ?_
    refine gfX0_5 (pc := 25) dX5_back_25 yc_7 w_32_3 rfl ?_
    exact z_iret (pc := 28) dX5_back_28 rfl rfl
  · refine z_bipush_m3 (pc := 7) dX5_back_7 ?_
    exact z_iret (pc := 9) dX5_back_9 rfl rfl
def fX5_count  (a1 : Int32) (σ : z_Mem) : Option (Int32 × z_Mem) :=
  if a1 = 0 then (some (σ.1 7 5, σ)) else if a1 = 1 then (some (σ.1 7 6, σ)) else if a1 = 2 then (some (σ.1 7 7, σ)) else if a1 = 3 then (some (σ.1 1 3, σ)) else if a1 = 4 then (some (σ.1 5 2, σ)) else if a1 = 5 then (some (σ.1 7 9, σ)) else some ((-2 : Int32), σ)
theorem kX5_count   (a1 : Int32) (σ : z_Mem) (D : Nat) (hD : 1 ≤ D) : z_Call YC mX5_count D z_i [zR 0, zI a1] σ (fX5_count a1 σ) := by
  obtain ⟨D, rfl⟩ : ∃ E, D = E + 1 := ⟨D - 1, by omega⟩
  replace hD : 0 ≤ D := by omega
  refine z_entry (lv := [some (zR 0), some (zI a1)]) (by decide) rfl (Nat.le_of_ble_eq_true rfl) rfl ?_
  rw [fX5_count]
  refine z_iload_n (pc := 0) dX5_count_0 rfl rfl ?_
  refine z_tswC (n := 0) (off := 39) (tgt := 40) (pc := 1) dX5_count_1 (by decide) (by decide) (by decide) (by decide) ?_ (fun h0 => ?_)
  · refine z_aload_n (pc := 40) dX5_count_40 rfl rfl ?_
    refine gfX5_2 (pc := 41) dX5_count_41 yc_0 w_1_23 rfl ?_
    refine gfX0_5 (pc := 44) dX5_count_44 yc_7 w_32_3 rfl ?_
    exact z_iret (pc := 47) dX5_count_47 rfl rfl
  · refine z_tswC (n := 1) (off := 47) (tgt := 48) (pc := 1) dX5_count_1 (by decide) (by decide) (by decide) (by decide) ?_ (fun h1 => ?_)
    · refine z_aload_n (pc := 48) dX5_count_48 rfl rfl ?_
      refine gfX5_2 (pc := 49) dX5_count_49 yc_0 w_1_23 rfl ?_
      refine gfX0_6 (pc := 52) dX5_count_52 yc_7 w_24_20 rfl ?_
      exact z_iret (pc := 55) dX5_count_55 rfl rfl
    · refine z_tswC (n := 2) (off := 55) (tgt := 56) (pc := 1) dX5_count_1 (by decide) (by decide) (by decide) (by decide) ?_ (fun h2 => ?_)
      · refine z_aload_n (pc := 56) dX5_count_56 rfl rfl ?_
        refine gfX5_2 (pc := 57) dX5_count_57 yc_0 w_1_23 rfl ?_
        refine gfX0_7 (pc := 60) dX5_count_60 yc_7 w_26_12 rfl ?_
        exact z_iret (pc := 63) dX5_count_63 rfl rfl
      · refine z_tswC (n := 3) (off := 63) (tgt := 64) (pc := 1) dX5_count_1 (by decide) (by decide) (by decide) (by decide) ?_ (fun h3 => ?_)
        · refine z_aload_n (pc := 64) dX5_count_64 rfl rfl ?_
          refine gfX5_0 (pc := 65) dX5_count_65 yc_0 w_1_15 rfl ?_
          refine gfX4_3 (pc := 68) dX5_count_68 yc_1 w_23_10 rfl ?_
          exact z_iret (pc := 71) dX5_count_71 rfl rfl
        · refine z_tswC (n := 4) (off := 71) (tgt := 72) (pc := 1) dX5_count_1 (by decide) (by decide) (by decide) (by decide) ?_ (fun h4 => ?_)
          · refine z_aload_n (pc := 72) dX5_count_72 rfl rfl ?_
            refine gfX5_1 (pc := 73) dX5_count_73 yc_0 w_1_19 rfl ?_
            refine gfX2_2 (pc := 76) dX5_count_76 yc_5 w_22_23 rfl ?_
            exact z_iret (pc := 79) dX5_count_79 rfl rfl
          · refine z_tswC (n := 5) (off := 79) (tgt := 80) (pc := 1) dX5_count_1 (by decide) (by decide) (by decide) (by decide) ?_ (fun h5 => ?_)
            · refine z_aload_n (pc := 80) dX5_count_80 rfl rfl ?_
              refine gfX5_2 (pc := 81) dX5_count_81 yc_0 w_1_23 rfl ?_
              refine gfX0_9 (pc := 84) dX5_count_84 yc_7 w_23_19 rfl ?_
              exact z_iret (pc := 87) dX5_count_87 rfl rfl
            · refine z_tswD (tgt := 88) (pc := 1) dX5_count_1 (by have t0 := lv_neT h0 (a := 0) rfl; have t1 := lv_neT h1 (a := 1) rfl; have t2 := lv_neT h2 (a := 2) rfl; have t3 := lv_neT h3 (a := 3) rfl; have t4 := lv_neT h4 (a := 4) rfl; have t5 := lv_neT h5 (a := 5) rfl; omega) (by decide) ?_
              refine z_bipush_m2 (pc := 88) dX5_count_88 ?_
              exact z_iret (pc := 90) dX5_count_90 rfl rfl
def fX5_sheet  (a1 : Int32) (a2 : Int32) (a3 : Int32) (σ : z_Mem) : Option (Int32 × z_Mem) :=
  z_bd (fX5_isSheet a1 σ) (fun r1 s1 => if r1 = 0 then (some ((-2 : Int32), s1)) else (if a2 < (-1 : Int32) then (some ((-2 : Int32), s1)) else (if a2 ≤ (2 : Int32) then (if a2 = (-1 : Int32) then (if a2 = (-1 : Int32) then (z_gd (z_in a1 4) (if a2 = (-1 : Int32) then (z_bd (fX3_become (28 + 2 * z_x a1) a2 (0 : Int32) s1) (fun _ s4 => some ((1 : Int32), s4))) else (z_bd (fX3_become (28 + 2 * z_x a1) a2 a3 s1) (fun _ s3 => some ((1 : Int32), s3))))) else (if 0 ≤ a3 then (z_gd (z_in a1 4) (if a2 = (-1 : Int32) then (z_bd (fX3_become (28 + 2 * z_x a1) a2 (0 : Int32) s1) (fun _ s7 => some ((1 : Int32), s7))) else (z_bd (fX3_become (28 + 2 * z_x a1) a2 a3 s1) (fun _ s6 => some ((1 : Int32), s6))))) else (some ((-14 : Int32), s1)))) else (if a3 ≤ (40 : Int32) then (if a2 = (-1 : Int32) then (z_gd (z_in a1 4) (if a2 = (-1 : Int32) then (z_bd (fX3_become (28 + 2 * z_x a1) a2 (0 : Int32) s1) (fun _ s10 => some ((1 : Int32), s10))) else (z_bd (fX3_become (28 + 2 * z_x a1) a2 a3 s1) (fun _ s9 => some ((1 : Int32), s9))))) else (if 0 ≤ a3 then (z_gd (z_in a1 4) (if a2 = (-1 : Int32) then (z_bd (fX3_become (28 + 2 * z_x a1) a2 (0 : Int32) s1) (fun _ s13 => some ((1 : Int32), s13))) else (z_bd (fX3_become (28 + 2 * z_x a1) a2 a3 s1) (fun _ s12 => some ((1 : Int32), s12))))) else (some ((-14 : Int32), s1)))) else (some ((-2 : Int32), s1)))) else (some ((-2 : Int32), s1)))))
theorem kX5_sheet   (a1 : Int32) (a2 : Int32) (a3 : Int32) (σ : z_Mem) (D : Nat) (hD : 2 ≤ D) : z_Call YC mX5_sheet D z_i [zR 0, zI a1, zI a2, zI a3] σ (fX5_sheet a1 a2 a3 σ) := by
  obtain ⟨D, rfl⟩ : ∃ E, D = E + 1 := ⟨D - 1, by omega⟩
  replace hD : 1 ≤ D := by omega
  refine z_entry (lv := [some (zR 0), some (zI a1), some (zI a2), some (zI a3)]) (by decide) rfl (Nat.le_of_ble_eq_true rfl) rfl ?_
  rw [fX5_sheet]
  refine z_iload_n (pc := 0) dX5_sheet_0 rfl rfl ?_
  refine z_S1i (pc := 1) dX5_sheet_1 lSX5_181 (Nat.le_of_ble_eq_true rfl) (kX5_isSheet a1 σ D (by omega)) (fun r1 s1 => ?_)
  refine z_if_eq (tgt := 17) (pc := 4) dX5_sheet_4 (by decide) (fun _ => ?_) (fun _ => ?_)
  · refine z_bipush_m2 (pc := 17) dX5_sheet_17 ?_
    exact z_iret (pc := 19) dX5_sheet_19 rfl rfl
  · refine z_iload_n (pc := 7) dX5_sheet_7 rfl rfl ?_
    refine z_iconst_m1 (pc := 8) dX5_sheet_8 ?_
    refine z_icmp_lt (tgt := 17) (pc := 9) dX5_sheet_9 (by decide) (fun _ => ?_) (fun _ => ?_)
    · refine z_bipush_m2 (pc := 17) dX5_sheet_17 ?_
      exact z_iret (pc := 19) dX5_sheet_19 rfl rfl
    · refine z_iload_n (pc := 12) dX5_sheet_12 rfl rfl ?_
      refine z_iconst_2 (pc := 13) dX5_sheet_13 ?_
      refine z_icmp_le (tgt := 20) (pc := 14) dX5_sheet_14 (by decide) (fun _ => ?_) (fun _ => ?_)
      · refine z_iload_n (pc := 20) dX5_sheet_20 rfl rfl ?_
        refine z_iconst_m1 (pc := 21) dX5_sheet_21 ?_
        refine z_icmp_eq (tgt := 34) (pc := 22) dX5_sheet_22 (by decide) (fun _ => ?_) (fun _ => ?_)
        · refine z_iload_n (pc := 34) dX5_sheet_34 rfl rfl ?_
          refine z_iconst_m1 (pc := 35) dX5_sheet_35 ?_
          refine z_icmp_eq (tgt := 46) (pc := 36) dX5_sheet_36 (by decide) (fun _ => ?_) (fun _ => ?_)
          · refine z_aload_n (pc := 46) dX5_sheet_46 rfl rfl ?_
            refine gfX5_6 (pc := 47) dX5_sheet_47 yc_0 w_2_7 rfl ?_
            refine z_iload_n (pc := 50) dX5_sheet_50 rfl rfl ?_
            refine z_aald (pc := 51) dX5_sheet_51 yc_27 (fun g2 => ?_)
            refine z_iload_n (pc := 52) dX5_sheet_52 rfl rfl ?_
            refine z_iload_n (pc := 53) dX5_sheet_53 rfl rfl ?_
            refine z_iconst_m1 (pc := 54) dX5_sheet_54 ?_
            refine z_icmp_ne (tgt := 62) (pc := 55) dX5_sheet_55 (by decide) (fun _ => ?_) (fun _ => ?_)
            · refine z_iload_n (pc := 62) dX5_sheet_62 rfl rfl ?_
              refine z_V2u (pc := 63) dX5_sheet_63 lVX5_196 ((z_ls_at g2).1) rfl (Nat.le_of_ble_eq_true rfl) (kX3_become (28 + 2 * z_x a1) (z_ls_at g2) a2 a3 s1 D (by omega)) (fun _ s3 => ?_)
              refine z_iconst_1 (pc := 66) dX5_sheet_66 ?_
              exact z_iret (pc := 67) dX5_sheet_67 rfl rfl
            · refine z_iconst_0 (pc := 58) dX5_sheet_58 ?_
              refine z_goto (tgt := 63) (pc := 59) dX5_sheet_59 (by decide) ?_
              refine z_V2u (pc := 63) dX5_sheet_63 lVX5_196 ((z_ls_at g2).1) rfl (Nat.le_of_ble_eq_true rfl) (kX3_become (28 + 2 * z_x a1) (z_ls_at g2) a2 (0 : Int32) s1 D (by omega)) (fun _ s4 => ?_)
              refine z_iconst_1 (pc := 66) dX5_sheet_66 ?_
              exact z_iret (pc := 67) dX5_sheet_67 rfl rfl
          · refine z_iload_n (pc := 39) dX5_sheet_39 rfl rfl ?_
            refine z_if_ge (tgt := 46) (pc := 40) dX5_sheet_40 (by decide) (fun _ => ?_) (fun _ => ?_)
            · refine z_aload_n (pc := 46) dX5_sheet_46 rfl rfl ?_
              refine gfX5_6 (pc := 47) dX5_sheet_47 yc_0 w_2_7 rfl ?_
              refine z_iload_n (pc := 50) dX5_sheet_50 rfl rfl ?_
              refine z_aald (pc := 51) dX5_sheet_51 yc_27 (fun g5 => ?_)
              refine z_iload_n (pc := 52) dX5_sheet_52 rfl rfl ?_
              refine z_iload_n (pc := 53) dX5_sheet_53 rfl rfl ?_
              refine z_iconst_m1 (pc := 54) dX5_sheet_54 ?_
              refine z_icmp_ne (tgt := 62) (pc := 55) dX5_sheet_55 (by decide) (fun _ => ?_) (fun _ => ?_)
              · refine z_iload_n (pc := 62) dX5_sheet_62 rfl rfl ?_
                refine z_V2u (pc := 63) dX5_sheet_63 lVX5_196 ((z_ls_at g5).1) rfl (Nat.le_of_ble_eq_true rfl) (kX3_become (28 + 2 * z_x a1) (z_ls_at g5) a2 a3 s1 D (by omega)) (fun _ s6 => ?_)
                refine z_iconst_1 (pc := 66) dX5_sheet_66 ?_
                exact z_iret (pc := 67) dX5_sheet_67 rfl rfl
              · refine z_iconst_0 (pc := 58) dX5_sheet_58 ?_
                refine z_goto (tgt := 63) (pc := 59) dX5_sheet_59 (by decide) ?_
                refine z_V2u (pc := 63) dX5_sheet_63 lVX5_196 ((z_ls_at g5).1) rfl (Nat.le_of_ble_eq_true rfl) (kX3_become (28 + 2 * z_x a1) (z_ls_at g5) a2 (0 : Int32) s1 D (by omega)) (fun _ s7 => ?_)
                refine z_iconst_1 (pc := 66) dX5_sheet_66 ?_
                exact z_iret (pc := 67) dX5_sheet_67 rfl rfl
            · refine z_bipush_m14 (pc := 43) dX5_sheet_43 ?_
              exact z_iret (pc := 45) dX5_sheet_45 rfl rfl
        · refine z_iload_n (pc := 25) dX5_sheet_25 rfl rfl ?_
          refine z_bipush_40 (pc := 26) dX5_sheet_26 ?_
          refine z_icmp_le (tgt := 34) (pc := 28) dX5_sheet_28 (by decide) (fun _ => ?_) (fun _ => ?_)
          · refine z_iload_n (pc := 34) dX5_sheet_34 rfl rfl ?_
            refine z_iconst_m1 (pc := 35) dX5_sheet_35 ?_
            refine z_icmp_eq (tgt := 46) (pc := 36) dX5_sheet_36 (by decide) (fun _ => ?_) (fun _ => ?_)
            · refine z_aload_n (pc := 46) dX5_sheet_46 rfl rfl ?_
              refine gfX5_6 (pc := 47) dX5_sheet_47 yc_0 w_2_7 rfl ?_
              refine z_iload_n (pc := 50) dX5_sheet_50 rfl rfl ?_
              refine z_aald (pc := 51) dX5_sheet_51 yc_27 (fun g8 => ?_)
              refine z_iload_n (pc := 52) dX5_sheet_52 rfl rfl ?_
              refine z_iload_n (pc := 53) dX5_sheet_53 rfl rfl ?_
              refine z_iconst_m1 (pc := 54) dX5_sheet_54 ?_
              refine z_icmp_ne (tgt := 62) (pc := 55) dX5_sheet_55 (by decide) (fun _ => ?_) (fun _ => ?_)
              · refine z_iload_n (pc := 62) dX5_sheet_62 rfl rfl ?_
                refine z_V2u (pc := 63) dX5_sheet_63 lVX5_196 ((z_ls_at g8).1) rfl (Nat.le_of_ble_eq_true rfl) (kX3_become (28 + 2 * z_x a1) (z_ls_at g8) a2 a3 s1 D (by omega)) (fun _ s9 => ?_)
                refine z_iconst_1 (pc := 66) dX5_sheet_66 ?_
                exact z_iret (pc := 67) dX5_sheet_67 rfl rfl
              · refine z_iconst_0 (pc := 58) dX5_sheet_58 ?_
                refine z_goto (tgt := 63) (pc := 59) dX5_sheet_59 (by decide) ?_
                refine z_V2u (pc := 63) dX5_sheet_63 lVX5_196 ((z_ls_at g8).1) rfl (Nat.le_of_ble_eq_true rfl) (kX3_become (28 + 2 * z_x a1) (z_ls_at g8) a2 (0 : Int32) s1 D (by omega)) (fun _ s10 => ?_)
                refine z_iconst_1 (pc := 66) dX5_sheet_66 ?_
                exact z_iret (pc := 67) dX5_sheet_67 rfl rfl
            · refine z_iload_n (pc := 39) dX5_sheet_39 rfl rfl ?_
              refine z_if_ge (tgt := 46) (pc := 40) dX5_sheet_40 (by decide) (fun _ => ?_) (fun _ => ?_)
              · refine z_aload_n (pc := 46) dX5_sheet_46 rfl rfl ?_
                refine gfX5_6 (pc := 47) dX5_sheet_47 yc_0 w_2_7 rfl ?_
                refine z_iload_n (pc := 50) dX5_sheet_50 rfl rfl ?_
                refine z_aald (pc := 51) dX5_sheet_51 yc_27 (fun g11 => ?_)
                refine z_iload_n (pc := 52) dX5_sheet_52 rfl rfl ?_
                refine z_iload_n (pc := 53) dX5_sheet_53 rfl rfl ?_
                refine z_iconst_m1 (pc := 54) dX5_sheet_54 ?_
                refine z_icmp_ne (tgt := 62) (pc := 55) dX5_sheet_55 (by decide) (fun _ => ?_) (fun _ => ?_)
                · refine z_iload_n (pc := 62) dX5_sheet_62 rfl rfl ?_
                  refine z_V2u (pc := 63) dX5_sheet_63 lVX5_196 ((z_ls_at g11).1) rfl (Nat.le_of_ble_eq_true rfl) (kX3_become (28 + 2 * z_x a1) (z_ls_at g11) a2 a3 s1 D (by omega)) (fun _ s12 => ?_)
                  refine z_iconst_1 (pc := 66) dX5_sheet_66 ?_
                  exact z_iret (pc := 67) dX5_sheet_67 rfl rfl
                · refine z_iconst_0 (pc := 58) dX5_sheet_58 ?_
                  refine z_goto (tgt := 63) (pc := 59) dX5_sheet_59 (by decide) ?_
                  refine z_V2u (pc := 63) dX5_sheet_63 lVX5_196 ((z_ls_at g11).1) rfl (Nat.le_of_ble_eq_true rfl) (kX3_become (28 + 2 * z_x a1) (z_ls_at g11) a2 (0 : Int32) s1 D (by omega)) (fun _ s13 => ?_)
                  refine z_iconst_1 (pc := 66) dX5_sheet_66 ?_
                  exact z_iret (pc := 67) dX5_sheet_67 rfl rfl
              · refine z_bipush_m14 (pc := 43) dX5_sheet_43 ?_
                exact z_iret (pc := 45) dX5_sheet_45 rfl rfl
          · refine z_bipush_m2 (pc := 31) dX5_sheet_31 ?_
            exact z_iret (pc := 33) dX5_sheet_33 rfl rfl
      · refine z_bipush_m2 (pc := 17) dX5_sheet_17 ?_
        exact z_iret (pc := 19) dX5_sheet_19 rfl rfl
def fX5_cell  (a1 : Int32) (a2 : Int32) (a3 : Int32) (σ : z_Mem) : Option (Int32 × z_Mem) :=
  z_bd (fX5_isSheet a1 σ) (fun r1 s1 => if r1 = 0 then (some ((-2 : Int32), s1)) else (z_gd (z_in a1 4) (if s1.1 (28 + 2 * z_x a1) 1 = (-1 : Int32) then (some ((-11 : Int32), s1)) else (z_bd (fX3_has (28 + 2 * z_x a1) a2 s1) (fun r3 s3 => if r3 = 0 then (some ((-12 : Int32), s3)) else (z_bd (fX3_put (28 + 2 * z_x a1) a2 a3 s3) (fun _ s4 => some ((1 : Int32), s4))))))))
theorem kX5_cell   (a1 : Int32) (a2 : Int32) (a3 : Int32) (σ : z_Mem) (D : Nat) (hD : 3 ≤ D) : z_Call YC mX5_cell D z_i [zR 0, zI a1, zI a2, zI a3] σ (fX5_cell a1 a2 a3 σ) := by
  obtain ⟨D, rfl⟩ : ∃ E, D = E + 1 := ⟨D - 1, by omega⟩
  replace hD : 2 ≤ D := by omega
  refine z_entry (lv := [some (zR 0), some (zI a1), some (zI a2), some (zI a3), none]) (by decide) rfl (Nat.le_of_ble_eq_true rfl) rfl ?_
  rw [fX5_cell]
  refine z_iload_n (pc := 0) dX5_cell_0 rfl rfl ?_
  refine z_S1i (pc := 1) dX5_cell_1 lSX5_181 (Nat.le_of_ble_eq_true rfl) (kX5_isSheet a1 σ D (by omega)) (fun r1 s1 => ?_)
  refine z_if_ne (tgt := 10) (pc := 4) dX5_cell_4 (by decide) (fun _ => ?_) (fun _ => ?_)
  · refine z_aload_n (pc := 10) dX5_cell_10 rfl rfl ?_
    refine gfX5_6 (pc := 11) dX5_cell_11 yc_0 w_2_7 rfl ?_
    refine z_iload_n (pc := 14) dX5_cell_14 rfl rfl ?_
    refine z_aald (pc := 15) dX5_cell_15 yc_27 (fun g2 => ?_)
    refine z_astore (pc := 16) dX5_cell_16 (Nat.le_of_ble_eq_true rfl) (z_so5_4 rfl) ?_
    refine z_aload (pc := 18) dX5_cell_18 rfl ?_
    refine gfX3_1 (pc := 20) dX5_cell_20 ((z_ls_at g2).1) w_34_16 rfl ?_
    refine z_iconst_m1 (pc := 23) dX5_cell_23 ?_
    refine z_icmp_ne (tgt := 30) (pc := 24) dX5_cell_24 (by decide) (fun _ => ?_) (fun _ => ?_)
    · refine z_aload (pc := 30) dX5_cell_30 rfl ?_
      refine z_iload_n (pc := 32) dX5_cell_32 rfl rfl ?_
      refine z_V1i (pc := 33) dX5_cell_33 lVX5_209 ((z_ls_at g2).1) rfl (Nat.le_of_ble_eq_true rfl) (kX3_has (28 + 2 * z_x a1) (z_ls_at g2) a2 s1 D (by omega)) (fun r3 s3 => ?_)
      refine z_if_ne (tgt := 42) (pc := 36) dX5_cell_36 (by decide) (fun _ => ?_) (fun _ => ?_)
      · refine z_aload (pc := 42) dX5_cell_42 rfl ?_
        refine z_iload_n (pc := 44) dX5_cell_44 rfl rfl ?_
        refine z_iload_n (pc := 45) dX5_cell_45 rfl rfl ?_
        refine z_V2u (pc := 46) dX5_cell_46 lVX5_199 ((z_ls_at g2).1) rfl (Nat.le_of_ble_eq_true rfl) (kX3_put (28 + 2 * z_x a1) (z_ls_at g2) a2 a3 s3 D (by omega)) (fun _ s4 => ?_)
        refine z_iconst_1 (pc := 49) dX5_cell_49 ?_
        exact z_iret (pc := 50) dX5_cell_50 rfl rfl
      · refine z_bipush_m12 (pc := 39) dX5_cell_39 ?_
        exact z_iret (pc := 41) dX5_cell_41 rfl rfl
    · refine z_bipush_m11 (pc := 27) dX5_cell_27 ?_
      exact z_iret (pc := 29) dX5_cell_29 rfl rfl
  · refine z_bipush_m2 (pc := 7) dX5_cell_7 ?_
    exact z_iret (pc := 9) dX5_cell_9 rfl rfl
def fX5_copy  (a1 : Int32) (a2 : Int32) (a3 : Int32) (a4 : Int32) (a5 : Int32) (σ : z_Mem) : Option (Int32 × z_Mem) :=
  z_bd (fX5_isSheet a1 σ) (fun r1 s1 => if r1 = 0 then (some ((-2 : Int32), s1)) else (z_bd (fX5_isSheet a3 s1) (fun r2 s2 => if r2 = 0 then (some ((-2 : Int32), s2)) else (z_gd (z_in a1 4) (z_gd (z_in a3 4) (if s2.1 (28 + 2 * z_x a1) 1 = (-1 : Int32) then (some ((-11 : Int32), s2)) else (if s2.1 (28 + 2 * z_x a3) 1 = (-1 : Int32) then (some ((-11 : Int32), s2)) else (if s2.1 (28 + 2 * z_x a1) 1 = s2.1 (28 + 2 * z_x a3) 1 then (z_bd (fX3_hasRun (28 + 2 * z_x a1) a2 a5 s2) (fun r5 s5 => if r5 = 0 then (some ((-12 : Int32), s5)) else (z_bd (fX3_hasRun (28 + 2 * z_x a3) a4 a5 s5) (fun r6 s6 => if r6 = 0 then (some ((-12 : Int32), s6)) else (z_gd (z_cpOk a2 a4 a5 40 40) (z_st (z_ac s6 (28 + 2 * z_x a1 + 1) (28 + 2 * z_x a3 + 1) (z_x a2) (z_x a4) (z_x a5)) (fun s7 => some (a5, s7)))))))) else (some ((-13 : Int32), s2))))))))))
theorem kX5_copy   (a1 : Int32) (a2 : Int32) (a3 : Int32) (a4 : Int32) (a5 : Int32) (σ : z_Mem) (D : Nat) (hD : 2 ≤ D) : z_Call YC mX5_copy D z_i [zR 0, zI a1, zI a2, zI a3, zI a4, zI a5] σ (fX5_copy a1 a2 a3 a4 a5 σ) := by
  obtain ⟨D, rfl⟩ : ∃ E, D = E + 1 := ⟨D - 1, by omega⟩
  replace hD : 1 ≤ D := by omega
  refine z_entry (lv := [some (zR 0), some (zI a1), some (zI a2), some (zI a3), some (zI a4), some (zI a5), none, none]) (by decide) rfl (Nat.le_of_ble_eq_true rfl) rfl ?_
  rw [fX5_copy]
  refine z_iload_n (pc := 0) dX5_copy_0 rfl rfl ?_
  refine z_S1i (pc := 1) dX5_copy_1 lSX5_181 (Nat.le_of_ble_eq_true rfl) (kX5_isSheet a1 σ D (by omega)) (fun r1 s1 => ?_)
  refine z_if_eq (tgt := 14) (pc := 4) dX5_copy_4 (by decide) (fun _ => ?_) (fun _ => ?_)
  · refine z_bipush_m2 (pc := 14) dX5_copy_14 ?_
    exact z_iret (pc := 16) dX5_copy_16 rfl rfl
  · refine z_iload_n (pc := 7) dX5_copy_7 rfl rfl ?_
    refine z_S1i (pc := 8) dX5_copy_8 lSX5_181 (Nat.le_of_ble_eq_true rfl) (kX5_isSheet a3 s1 D (by omega)) (fun r2 s2 => ?_)
    refine z_if_ne (tgt := 17) (pc := 11) dX5_copy_11 (by decide) (fun _ => ?_) (fun _ => ?_)
    · refine z_aload_n (pc := 17) dX5_copy_17 rfl rfl ?_
      refine gfX5_6 (pc := 18) dX5_copy_18 yc_0 w_2_7 rfl ?_
      refine z_iload_n (pc := 21) dX5_copy_21 rfl rfl ?_
      refine z_aald (pc := 22) dX5_copy_22 yc_27 (fun g3 => ?_)
      refine z_astore (pc := 23) dX5_copy_23 (Nat.le_of_ble_eq_true rfl) (z_so8_6 rfl) ?_
      refine z_aload_n (pc := 25) dX5_copy_25 rfl rfl ?_
      refine gfX5_6 (pc := 26) dX5_copy_26 yc_0 w_2_7 rfl ?_
      refine z_iload_n (pc := 29) dX5_copy_29 rfl rfl ?_
      refine z_aald (pc := 30) dX5_copy_30 yc_27 (fun g4 => ?_)
      refine z_astore (pc := 31) dX5_copy_31 (Nat.le_of_ble_eq_true rfl) (z_so8_7 rfl) ?_
      refine z_aload (pc := 33) dX5_copy_33 rfl ?_
      refine gfX3_1 (pc := 35) dX5_copy_35 ((z_ls_at g3).1) w_34_16 rfl ?_
      refine z_iconst_m1 (pc := 38) dX5_copy_38 ?_
      refine z_icmp_eq (tgt := 51) (pc := 39) dX5_copy_39 (by decide) (fun _ => ?_) (fun _ => ?_)
      · refine z_bipush_m11 (pc := 51) dX5_copy_51 ?_
        exact z_iret (pc := 53) dX5_copy_53 rfl rfl
      · refine z_aload (pc := 42) dX5_copy_42 rfl ?_
        refine gfX3_1 (pc := 44) dX5_copy_44 ((z_ls_at g4).1) w_34_16 rfl ?_
        refine z_iconst_m1 (pc := 47) dX5_copy_47 ?_
        refine z_icmp_ne (tgt := 54) (pc := 48) dX5_copy_48 (by decide) (fun _ => ?_) (fun _ => ?_)
        · refine z_aload (pc := 54) dX5_copy_54 rfl ?_
          refine gfX3_1 (pc := 56) dX5_copy_56 ((z_ls_at g3).1) w_34_16 rfl ?_
          refine z_aload (pc := 59) dX5_copy_59 rfl ?_
          refine gfX3_1 (pc := 61) dX5_copy_61 ((z_ls_at g4).1) w_34_16 rfl ?_
          refine z_icmp_eq (tgt := 70) (pc := 64) dX5_copy_64 (by decide) (fun _ => ?_) (fun _ => ?_)
          · refine z_aload (pc := 70) dX5_copy_70 rfl ?_
            refine z_iload_n (pc := 72) dX5_copy_72 rfl rfl ?_
            refine z_iload (pc := 73) dX5_copy_73 rfl ?_
            refine z_V2i (pc := 75) dX5_copy_75 lVX5_210 ((z_ls_at g3).1) rfl (Nat.le_of_ble_eq_true rfl) (kX3_hasRun (28 + 2 * z_x a1) (z_ls_at g3) a2 a5 s2 D (by omega)) (fun r5 s5 => ?_)
            refine z_if_eq (tgt := 93) (pc := 78) dX5_copy_78 (by decide) (fun _ => ?_) (fun _ => ?_)
            · refine z_bipush_m12 (pc := 93) dX5_copy_93 ?_
              exact z_iret (pc := 95) dX5_copy_95 rfl rfl
            · refine z_aload (pc := 81) dX5_copy_81 rfl ?_
              refine z_iload (pc := 83) dX5_copy_83 rfl ?_
              refine z_iload (pc := 85) dX5_copy_85 rfl ?_
              refine z_V2i (pc := 87) dX5_copy_87 lVX5_210 ((z_ls_at g4).1) rfl (Nat.le_of_ble_eq_true rfl) (kX3_hasRun (28 + 2 * z_x a3) (z_ls_at g4) a4 a5 s5 D (by omega)) (fun r6 s6 => ?_)
              refine z_if_ne (tgt := 96) (pc := 90) dX5_copy_90 (by decide) (fun _ => ?_) (fun _ => ?_)
              · refine z_aload (pc := 96) dX5_copy_96 rfl ?_
                refine gfX3_0 (pc := 98) dX5_copy_98 ((z_ls_at g3).1) w_40_1 rfl ?_
                refine z_iload_n (pc := 101) dX5_copy_101 rfl rfl ?_
                refine z_aload (pc := 102) dX5_copy_102 rfl ?_
                refine gfX3_0 (pc := 104) dX5_copy_104 ((z_ls_at g4).1) w_40_1 rfl ?_
                refine z_iload (pc := 107) dX5_copy_107 rfl ?_
                refine z_iload (pc := 109) dX5_copy_109 rfl ?_
                refine z_copy (pc := 111) rfl dX5_copy_111 w_40_2 w_29_0 w_29_1 w_29_2 ((z_ls_at g3).2) ((z_ls_at g4).2) ?_
                refine z_let (fun s7 => ?_)
                refine z_iload (pc := 114) dX5_copy_114 rfl ?_
                exact z_iret (pc := 116) dX5_copy_116 rfl rfl
              · refine z_bipush_m12 (pc := 93) dX5_copy_93 ?_
                exact z_iret (pc := 95) dX5_copy_95 rfl rfl
          · refine z_bipush_m13 (pc := 67) dX5_copy_67 ?_
            exact z_iret (pc := 69) dX5_copy_69 rfl rfl
        · refine z_bipush_m11 (pc := 51) dX5_copy_51 ?_
          exact z_iret (pc := 53) dX5_copy_53 rfl rfl
    · refine z_bipush_m2 (pc := 14) dX5_copy_14 ?_
      exact z_iret (pc := 16) dX5_copy_16 rfl rfl
def fX5_chain_72  : Nat → Int32 → Nat → Int32 → Int32 → Int32 → z_Mem → Option (Int32 × z_Mem)
  | 0, _, _, _, _, _, _ => none
  | q + 1, l4, l5, l6, l7, l8, σ => if l4 ≤ l8 then (some (l6, σ)) else (z_bd (fX3_hasRun l5 l7 (3 : Int32) σ) (fun r3 s3 => if r3 = 0 then (some ((-12 : Int32), s3)) else (z_gd (z_in l7 40) (z_gd (z_in (l7 + (1 : Int32)) 40) (z_gd (z_in (l7 + (2 : Int32)) 40) (z_bd (fX0_join 7 (s3.1 (l5 + 1) (z_x l7)) (s3.1 (l5 + 1) (z_x (l7 + (1 : Int32)))) (s3.1 (l5 + 1) (z_x (l7 + (2 : Int32)))) s3) (fun r4 s4 => if r4 < 0 then (fX5_chain_72  q l4 l5 l6 (l7 + (3 : Int32)) (l8 + 1) s4) else (fX5_chain_72  q l4 l5 (l6 + 1) (l7 + (3 : Int32)) (l8 + 1) s4))))))))
theorem kX5_chain_72 (D : Nat)   (hD : 2 ≤ D) : ∀ (q : Nat) (l4 : Int32) (l5 : Nat) (l6 : Int32) (l7 : Int32) (l8 : Int32) (hl5 : z_ls l5) (σ : z_Mem), z_Go YC mX5_chain (D + 1) z_i 72 [some (zR 0), none, none, none, some (zI l4), some (zR l5), some (zI l6), some (zI l7), some (zI l8)] [] σ (fX5_chain_72 q l4 l5 l6 l7 l8 σ) := by
  intro q
  induction q with
  | zero => intros; exact z_none
  | succ q ih =>
    intro l4 l5 l6 l7 l8 hl5 σ
    rw [fX5_chain_72]
    refine z_iload (pc := 72) dX5_chain_72 rfl ?_
    refine z_iload (pc := 74) dX5_chain_74 rfl ?_
    refine z_icmp_ge (tgt := 143) (pc := 76) dX5_chain_76 (by decide) (fun _ => ?_) (fun _ => ?_)
    · refine z_iload (pc := 143) dX5_chain_143 rfl ?_
      exact z_iret (pc := 145) dX5_chain_145 rfl rfl
    · refine z_aload (pc := 79) dX5_chain_79 rfl ?_
      refine z_iload (pc := 81) dX5_chain_81 rfl ?_
      refine z_iconst_3 (pc := 83) dX5_chain_83 ?_
      refine z_V2i (pc := 84) dX5_chain_84 lVX5_210 hl5.1 rfl (Nat.le_of_ble_eq_true rfl) (kX3_hasRun l5 hl5 l7 (3 : Int32) σ D (by omega)) (fun r3 s3 => ?_)
      refine z_if_ne (tgt := 93) (pc := 87) dX5_chain_87 (by decide) (fun _ => ?_) (fun _ => ?_)
      · refine z_aload_n (pc := 93) dX5_chain_93 rfl rfl ?_
        refine gfX5_2 (pc := 94) dX5_chain_94 yc_0 w_1_23 rfl ?_
        refine z_aload (pc := 97) dX5_chain_97 rfl ?_
        refine gfX3_0 (pc := 99) dX5_chain_99 hl5.1 w_40_1 rfl ?_
        refine z_iload (pc := 102) dX5_chain_102 rfl ?_
        refine z_iald (pc := 104) dX5_chain_104 hl5.2 ?_
        refine z_aload (pc := 105) dX5_chain_105 rfl ?_
        refine gfX3_0 (pc := 107) dX5_chain_107 hl5.1 w_40_1 rfl ?_
        refine z_iload (pc := 110) dX5_chain_110 rfl ?_
        refine z_iconst_1 (pc := 112) dX5_chain_112 ?_
        refine z_iadd (pc := 113) dX5_chain_113 ?_
        refine z_iald (pc := 114) dX5_chain_114 hl5.2 ?_
        refine z_aload (pc := 115) dX5_chain_115 rfl ?_
        refine gfX3_0 (pc := 117) dX5_chain_117 hl5.1 w_40_1 rfl ?_
        refine z_iload (pc := 120) dX5_chain_120 rfl ?_
        refine z_iconst_2 (pc := 122) dX5_chain_122 ?_
        refine z_iadd (pc := 123) dX5_chain_123 ?_
        refine z_iald (pc := 124) dX5_chain_124 hl5.2 ?_
        refine z_V3i (pc := 125) dX5_chain_125 lVX5_86 yc_7 rfl (Nat.le_of_ble_eq_true rfl) (kX0_join 7 z_lm_7 (s3.1 (l5 + 1) (z_x l7)) (s3.1 (l5 + 1) (z_x (l7 + (1 : Int32)))) (s3.1 (l5 + 1) (z_x (l7 + (2 : Int32)))) s3 D (by omega)) (fun r4 s4 => ?_)
        refine z_if_lt (tgt := 134) (pc := 128) dX5_chain_128 (by decide) (fun _ => ?_) (fun _ => ?_)
        · refine z_iinc (y := 3) (pc := 134) dX5_chain_134 rfl (by decide) (Nat.le_of_ble_eq_true rfl) (z_so9_7 rfl) ?_
          refine z_iinc (y := 1) (pc := 137) dX5_chain_137 rfl (by decide) (Nat.le_of_ble_eq_true rfl) (z_so9_8 rfl) ?_
          refine z_goto (tgt := 72) (pc := 140) dX5_chain_140 (by decide) ?_
          exact ih l4 l5 l6 (l7 + (3 : Int32)) (l8 + 1) hl5 s4
        · refine z_iinc (y := 1) (pc := 131) dX5_chain_131 rfl (by decide) (Nat.le_of_ble_eq_true rfl) (z_so9_6 rfl) ?_
          refine z_iinc (y := 3) (pc := 134) dX5_chain_134 rfl (by decide) (Nat.le_of_ble_eq_true rfl) (z_so9_7 rfl) ?_
          refine z_iinc (y := 1) (pc := 137) dX5_chain_137 rfl (by decide) (Nat.le_of_ble_eq_true rfl) (z_so9_8 rfl) ?_
          refine z_goto (tgt := 72) (pc := 140) dX5_chain_140 (by decide) ?_
          exact ih l4 l5 (l6 + 1) (l7 + (3 : Int32)) (l8 + 1) hl5 s4
      · refine z_bipush_m12 (pc := 90) dX5_chain_90 ?_
        exact z_iret (pc := 92) dX5_chain_92 rfl rfl
def fX5_chain  (a1 : Int32) (a2 : Int32) (a3 : Int32) (a4 : Int32) (σ : z_Mem) : Option (Int32 × z_Mem) :=
  z_bd (fX5_isSheet a1 σ) (fun r1 s1 => if r1 = 0 then (some ((-2 : Int32), s1)) else (if a2 < 0 then (some ((-2 : Int32), s1)) else (if (2 : Int32) < a2 then (some ((-2 : Int32), s1)) else (if a4 < 0 then (some ((-2 : Int32), s1)) else (if a4 ≤ (6 : Int32) then (z_gd (z_in a1 4) (if s1.1 (28 + 2 * z_x a1) 1 = (-1 : Int32) then (some ((-11 : Int32), s1)) else (if s1.1 (28 + 2 * z_x a1) 1 = a2 then (fX5_chain_72 z_FU a4 (28 + 2 * z_x a1) (0 : Int32) a3 (0 : Int32) s1) else (some ((-13 : Int32), s1))))) else (some ((-2 : Int32), s1)))))))
theorem kX5_chain   (a1 : Int32) (a2 : Int32) (a3 : Int32) (a4 : Int32) (σ : z_Mem) (D : Nat) (hD : 3 ≤ D) : z_Call YC mX5_chain D z_i [zR 0, zI a1, zI a2, zI a3, zI a4] σ (fX5_chain a1 a2 a3 a4 σ) := by
  obtain ⟨D, rfl⟩ : ∃ E, D = E + 1 := ⟨D - 1, by omega⟩
  replace hD : 2 ≤ D := by omega
  refine z_entry (lv := [some (zR 0), some (zI a1), some (zI a2), some (zI a3), some (zI a4), none, none, none, none]) (by decide) rfl (Nat.le_of_ble_eq_true rfl) rfl ?_
  rw [fX5_chain]
  refine z_iload_n (pc := 0) dX5_chain_0 rfl rfl ?_
  refine z_S1i (pc := 1) dX5_chain_1 lSX5_181 (Nat.le_of_ble_eq_true rfl) (kX5_isSheet a1 σ D (by omega)) (fun r1 s1 => ?_)
  refine z_if_eq (tgt := 28) (pc := 4) dX5_chain_4 (by decide) (fun _ => ?_) (fun _ => ?_)
  · refine z_bipush_m2 (pc := 28) dX5_chain_28 ?_
    exact z_iret (pc := 30) dX5_chain_30 rfl rfl
  · refine z_iload_n (pc := 7) dX5_chain_7 rfl rfl ?_
    refine z_if_lt (tgt := 28) (pc := 8) dX5_chain_8 (by decide) (fun _ => ?_) (fun _ => ?_)
    · refine z_bipush_m2 (pc := 28) dX5_chain_28 ?_
      exact z_iret (pc := 30) dX5_chain_30 rfl rfl
    · refine z_iload_n (pc := 11) dX5_chain_11 rfl rfl ?_
      refine z_iconst_2 (pc := 12) dX5_chain_12 ?_
      refine z_icmp_gt (tgt := 28) (pc := 13) dX5_chain_13 (by decide) (fun _ => ?_) (fun _ => ?_)
      · refine z_bipush_m2 (pc := 28) dX5_chain_28 ?_
        exact z_iret (pc := 30) dX5_chain_30 rfl rfl
      · refine z_iload (pc := 16) dX5_chain_16 rfl ?_
        refine z_if_lt (tgt := 28) (pc := 18) dX5_chain_18 (by decide) (fun _ => ?_) (fun _ => ?_)
        · refine z_bipush_m2 (pc := 28) dX5_chain_28 ?_
          exact z_iret (pc := 30) dX5_chain_30 rfl rfl
        · refine z_iload (pc := 21) dX5_chain_21 rfl ?_
          refine z_bipush_6 (pc := 23) dX5_chain_23 ?_
          refine z_icmp_le (tgt := 31) (pc := 25) dX5_chain_25 (by decide) (fun _ => ?_) (fun _ => ?_)
          · refine z_aload_n (pc := 31) dX5_chain_31 rfl rfl ?_
            refine gfX5_6 (pc := 32) dX5_chain_32 yc_0 w_2_7 rfl ?_
            refine z_iload_n (pc := 35) dX5_chain_35 rfl rfl ?_
            refine z_aald (pc := 36) dX5_chain_36 yc_27 (fun g2 => ?_)
            refine z_astore (pc := 37) dX5_chain_37 (Nat.le_of_ble_eq_true rfl) (z_so9_5 rfl) ?_
            refine z_aload (pc := 39) dX5_chain_39 rfl ?_
            refine gfX3_1 (pc := 41) dX5_chain_41 ((z_ls_at g2).1) w_34_16 rfl ?_
            refine z_iconst_m1 (pc := 44) dX5_chain_44 ?_
            refine z_icmp_ne (tgt := 51) (pc := 45) dX5_chain_45 (by decide) (fun _ => ?_) (fun _ => ?_)
            · refine z_aload (pc := 51) dX5_chain_51 rfl ?_
              refine gfX3_1 (pc := 53) dX5_chain_53 ((z_ls_at g2).1) w_34_16 rfl ?_
              refine z_iload_n (pc := 56) dX5_chain_56 rfl rfl ?_
              refine z_icmp_eq (tgt := 63) (pc := 57) dX5_chain_57 (by decide) (fun _ => ?_) (fun _ => ?_)
              · refine z_iconst_0 (pc := 63) dX5_chain_63 ?_
                refine z_istore (pc := 64) dX5_chain_64 (Nat.le_of_ble_eq_true rfl) (z_so9_6 rfl) ?_
                refine z_iload_n (pc := 66) dX5_chain_66 rfl rfl ?_
                refine z_istore (pc := 67) dX5_chain_67 (Nat.le_of_ble_eq_true rfl) (z_so9_7 rfl) ?_
                refine z_iconst_0 (pc := 69) dX5_chain_69 ?_
                refine z_istore (pc := 70) dX5_chain_70 (Nat.le_of_ble_eq_true rfl) (z_so9_8 rfl) ?_
                exact z_weak (lv' := [some (zR 0), none, none, none, some (zI a4), some (zR (28 + 2 * z_x a1)), some (zI (0 : Int32)), some (zI a3), some (zI (0 : Int32))]) (z_sub_ok ⟨rfl, rfl, rfl, rfl, rfl, rfl, trivial⟩) (kX5_chain_72 D  hD z_FU a4 (28 + 2 * z_x a1) (0 : Int32) a3 (0 : Int32) (z_ls_at g2) s1)
              · refine z_bipush_m13 (pc := 60) dX5_chain_60 ?_
                exact z_iret (pc := 62) dX5_chain_62 rfl rfl
            · refine z_bipush_m11 (pc := 48) dX5_chain_48 ?_
              exact z_iret (pc := 50) dX5_chain_50 rfl rfl
          · refine z_bipush_m2 (pc := 28) dX5_chain_28 ?_
            exact z_iret (pc := 30) dX5_chain_30 rfl rfl
def fX5_taken  (a1 : Int32) (a2 : Int32) (σ : z_Mem) : Option (Int32 × z_Mem) :=
  if a2 < 0 then (some ((-2 : Int32), σ)) else (if a2 < (6 : Int32) then (z_bd (fX0_has 7 a1 σ) (fun r1 s1 => if r1 = 0 then (some ((-11 : Int32), s1)) else (z_bd (fX0_trait 7 (4 : Int32) a1 s1) (fun r2 s2 => z_bd (fX5_isUnder r2 a2 s2) (fun r3 s3 => if r3 = 0 then (some ((-13 : Int32), s3)) else (z_bd (fX0_trait 7 (2 : Int32) a1 s3) (fun r4 s4 => some (r4, s4)))))))) else (some ((-2 : Int32), σ)))
theorem kX5_taken   (a1 : Int32) (a2 : Int32) (σ : z_Mem) (D : Nat) (hD : 3 ≤ D) : z_Call YC mX5_taken D z_i [zR 0, zI a1, zI a2] σ (fX5_taken a1 a2 σ) := by
  obtain ⟨D, rfl⟩ : ∃ E, D = E + 1 := ⟨D - 1, by omega⟩
  replace hD : 2 ≤ D := by omega
  refine z_entry (lv := [some (zR 0), some (zI a1), some (zI a2)]) (by decide) rfl (Nat.le_of_ble_eq_true rfl) rfl ?_
  rw [fX5_taken]
  refine z_iload_n (pc := 0) dX5_taken_0 rfl rfl ?_
  refine z_if_lt (tgt := 10) (pc := 1) dX5_taken_1 (by decide) (fun _ => ?_) (fun _ => ?_)
  · refine z_bipush_m2 (pc := 10) dX5_taken_10 ?_
    exact z_iret (pc := 12) dX5_taken_12 rfl rfl
  · refine z_iload_n (pc := 4) dX5_taken_4 rfl rfl ?_
    refine z_bipush_6 (pc := 5) dX5_taken_5 ?_
    refine z_icmp_lt (tgt := 13) (pc := 7) dX5_taken_7 (by decide) (fun _ => ?_) (fun _ => ?_)
    · refine z_aload_n (pc := 13) dX5_taken_13 rfl rfl ?_
      refine gfX5_2 (pc := 14) dX5_taken_14 yc_0 w_1_23 rfl ?_
      refine z_iload_n (pc := 17) dX5_taken_17 rfl rfl ?_
      refine z_V1i (pc := 18) dX5_taken_18 lVX5_75 yc_7 rfl (Nat.le_of_ble_eq_true rfl) (kX0_has 7 z_lm_7 a1 σ D (by omega)) (fun r1 s1 => ?_)
      refine z_if_ne (tgt := 27) (pc := 21) dX5_taken_21 (by decide) (fun _ => ?_) (fun _ => ?_)
      · refine z_aload_n (pc := 27) dX5_taken_27 rfl rfl ?_
        refine gfX5_2 (pc := 28) dX5_taken_28 yc_0 w_1_23 rfl ?_
        refine z_iconst_4 (pc := 31) dX5_taken_31 ?_
        refine z_iload_n (pc := 32) dX5_taken_32 rfl rfl ?_
        refine z_V2i (pc := 33) dX5_taken_33 lVX5_78 yc_7 rfl (Nat.le_of_ble_eq_true rfl) (kX0_trait 7 z_lm_7 (4 : Int32) a1 s1 D (by omega)) (fun r2 s2 => ?_)
        refine z_iload_n (pc := 36) dX5_taken_36 rfl rfl ?_
        refine z_S2i (pc := 37) dX5_taken_37 lSX5_224 (Nat.le_of_ble_eq_true rfl) (kX5_isUnder r2 a2 s2 D (by omega)) (fun r3 s3 => ?_)
        refine z_if_eq (tgt := 55) (pc := 40) dX5_taken_40 (by decide) (fun _ => ?_) (fun _ => ?_)
        · refine z_bipush_m13 (pc := 55) dX5_taken_55 ?_
          exact z_iret (pc := 57) dX5_taken_57 rfl rfl
        · refine z_aload_n (pc := 43) dX5_taken_43 rfl rfl ?_
          refine gfX5_2 (pc := 44) dX5_taken_44 yc_0 w_1_23 rfl ?_
          refine z_iconst_2 (pc := 47) dX5_taken_47 ?_
          refine z_iload_n (pc := 48) dX5_taken_48 rfl rfl ?_
          refine z_V2i (pc := 49) dX5_taken_49 lVX5_78 yc_7 rfl (Nat.le_of_ble_eq_true rfl) (kX0_trait 7 z_lm_7 (2 : Int32) a1 s3 D (by omega)) (fun r4 s4 => ?_)
          refine z_goto (tgt := 57) (pc := 52) dX5_taken_52 (by decide) ?_
          exact z_iret (pc := 57) dX5_taken_57 rfl rfl
      · refine z_bipush_m11 (pc := 24) dX5_taken_24 ?_
        exact z_iret (pc := 26) dX5_taken_26 rfl rfl
    · refine z_bipush_m2 (pc := 10) dX5_taken_10 ?_
      exact z_iret (pc := 12) dX5_taken_12 rfl rfl
