def fX5_set  (a1 : Int32) (a2 : Int32) (a3 : Int32) (σ : z_Mem) : Option (Int32 × z_Mem) :=
  if a1 < 0 then (some ((-2 : Int32), σ)) else (if (3 : Int32) < a1 then (some ((-2 : Int32), σ)) else (if a3 < 0 then (some ((-2 : Int32), σ)) else (z_bd (fX5_greatest a1 σ) (fun r1 s1 => if a3 ≤ r1 then (if a1 < (2 : Int32) then (z_bd (fX0_trait 7 a1 a2 s1) (fun r2 s2 => z_bd (fX0_suppose 7 a1 a2 a3 s2) (fun _ s3 => some (r2, s3)))) else (z_bd (fX0_has 7 a2 s1) (fun r4 s4 => if r4 = 0 then (some ((-2 : Int32), s4)) else (z_bd (fX0_trait 7 a1 a2 s4) (fun r5 s5 => z_bd (fX0_suppose 7 a1 a2 a3 s5) (fun _ s6 => some (r5, s6))))))) else (some ((-2 : Int32), s1))))))
theorem kX5_set   (a1 : Int32) (a2 : Int32) (a3 : Int32) (σ : z_Mem) (D : Nat) (hD : 3 ≤ D) : z_Call YC mX5_set D z_i [zR 0, zI a1, zI a2, zI a3] σ (fX5_set a1 a2 a3 σ) := by
  obtain ⟨D, rfl⟩ : ∃ E, D = E + 1 := ⟨D - 1, by omega⟩
  replace hD : 2 ≤ D := by omega
  refine z_entry (lv := [some (zR 0), some (zI a1), some (zI a2), some (zI a3), none]) (by decide) rfl (Nat.le_of_ble_eq_true rfl) rfl ?_
  rw [fX5_set]
  refine z_iload_n (pc := 0) dX5_set_0 rfl rfl ?_
  refine z_if_lt (tgt := 21) (pc := 1) dX5_set_1 (by decide) (fun _ => ?_) (fun _ => ?_)
  · refine z_bipush_m2 (pc := 21) dX5_set_21 ?_
    exact z_iret (pc := 23) dX5_set_23 rfl rfl
  · refine z_iload_n (pc := 4) dX5_set_4 rfl rfl ?_
    refine z_iconst_3 (pc := 5) dX5_set_5 ?_
    refine z_icmp_gt (tgt := 21) (pc := 6) dX5_set_6 (by decide) (fun _ => ?_) (fun _ => ?_)
    · refine z_bipush_m2 (pc := 21) dX5_set_21 ?_
      exact z_iret (pc := 23) dX5_set_23 rfl rfl
    · refine z_iload_n (pc := 9) dX5_set_9 rfl rfl ?_
      refine z_if_lt (tgt := 21) (pc := 10) dX5_set_10 (by decide) (fun _ => ?_) (fun _ => ?_)
      · refine z_bipush_m2 (pc := 21) dX5_set_21 ?_
        exact z_iret (pc := 23) dX5_set_23 rfl rfl
      · refine z_iload_n (pc := 13) dX5_set_13 rfl rfl ?_
        refine z_iload_n (pc := 14) dX5_set_14 rfl rfl ?_
        refine z_S1i (pc := 15) dX5_set_15 lSX5_71 (Nat.le_of_ble_eq_true rfl) (kX5_greatest a1 σ D (by omega)) (fun r1 s1 => ?_)
        refine z_icmp_le (tgt := 24) (pc := 18) dX5_set_18 (by decide) (fun _ => ?_) (fun _ => ?_)
        · refine z_iload_n (pc := 24) dX5_set_24 rfl rfl ?_
          refine z_iconst_2 (pc := 25) dX5_set_25 ?_
          refine z_icmp_lt (tgt := 43) (pc := 26) dX5_set_26 (by decide) (fun _ => ?_) (fun _ => ?_)
          · refine z_aload_n (pc := 43) dX5_set_43 rfl rfl ?_
            refine gfX5_2 (pc := 44) dX5_set_44 yc_0 w_1_23 rfl ?_
            refine z_iload_n (pc := 47) dX5_set_47 rfl rfl ?_
            refine z_iload_n (pc := 48) dX5_set_48 rfl rfl ?_
            refine z_V2i (pc := 49) dX5_set_49 lVX5_78 yc_7 rfl (Nat.le_of_ble_eq_true rfl) (kX0_trait 7 z_lm_7 a1 a2 s1 D (by omega)) (fun r2 s2 => ?_)
            refine z_istore (pc := 52) dX5_set_52 (Nat.le_of_ble_eq_true rfl) (z_so5_4 rfl) ?_
            refine z_aload_n (pc := 54) dX5_set_54 rfl rfl ?_
            refine gfX5_2 (pc := 55) dX5_set_55 yc_0 w_1_23 rfl ?_
            refine z_iload_n (pc := 58) dX5_set_58 rfl rfl ?_
            refine z_iload_n (pc := 59) dX5_set_59 rfl rfl ?_
            refine z_iload_n (pc := 60) dX5_set_60 rfl rfl ?_
            refine z_V3u (pc := 61) dX5_set_61 lVX5_82 yc_7 rfl (Nat.le_of_ble_eq_true rfl) (kX0_suppose 7 z_lm_7 a1 a2 a3 s2 D (by omega)) (fun _ s3 => ?_)
            refine z_iload (pc := 64) dX5_set_64 rfl ?_
            exact z_iret (pc := 66) dX5_set_66 rfl rfl
          · refine z_aload_n (pc := 29) dX5_set_29 rfl rfl ?_
            refine gfX5_2 (pc := 30) dX5_set_30 yc_0 w_1_23 rfl ?_
            refine z_iload_n (pc := 33) dX5_set_33 rfl rfl ?_
            refine z_V1i (pc := 34) dX5_set_34 lVX5_75 yc_7 rfl (Nat.le_of_ble_eq_true rfl) (kX0_has 7 z_lm_7 a2 s1 D (by omega)) (fun r4 s4 => ?_)
            refine z_if_ne (tgt := 43) (pc := 37) dX5_set_37 (by decide) (fun _ => ?_) (fun _ => ?_)
            · refine z_aload_n (pc := 43) dX5_set_43 rfl rfl ?_
              refine gfX5_2 (pc := 44) dX5_set_44 yc_0 w_1_23 rfl ?_
              refine z_iload_n (pc := 47) dX5_set_47 rfl rfl ?_
              refine z_iload_n (pc := 48) dX5_set_48 rfl rfl ?_
              refine z_V2i (pc := 49) dX5_set_49 lVX5_78 yc_7 rfl (Nat.le_of_ble_eq_true rfl) (kX0_trait 7 z_lm_7 a1 a2 s4 D (by omega)) (fun r5 s5 => ?_)
              refine z_istore (pc := 52) dX5_set_52 (Nat.le_of_ble_eq_true rfl) (z_so5_4 rfl) ?_
              refine z_aload_n (pc := 54) dX5_set_54 rfl rfl ?_
              refine gfX5_2 (pc := 55) dX5_set_55 yc_0 w_1_23 rfl ?_
              refine z_iload_n (pc := 58) dX5_set_58 rfl rfl ?_
              refine z_iload_n (pc := 59) dX5_set_59 rfl rfl ?_
              refine z_iload_n (pc := 60) dX5_set_60 rfl rfl ?_
              refine z_V3u (pc := 61) dX5_set_61 lVX5_82 yc_7 rfl (Nat.le_of_ble_eq_true rfl) (kX0_suppose 7 z_lm_7 a1 a2 a3 s5 D (by omega)) (fun _ s6 => ?_)
              refine z_iload (pc := 64) dX5_set_64 rfl ?_
              exact z_iret (pc := 66) dX5_set_66 rfl rfl
            · refine z_bipush_m2 (pc := 40) dX5_set_40 ?_
              exact z_iret (pc := 42) dX5_set_42 rfl rfl
        · refine z_bipush_m2 (pc := 21) dX5_set_21 ?_
          exact z_iret (pc := 23) dX5_set_23 rfl rfl
def fX5_man  (a1 : Int32) (a2 : Int32) (a3 : Int32) (σ : z_Mem) : Option (Int32 × z_Mem) :=
  z_bd (fX0_join 7 a1 a2 a3 σ) (fun r1 s1 => some (r1, s1))
theorem kX5_man   (a1 : Int32) (a2 : Int32) (a3 : Int32) (σ : z_Mem) (D : Nat) (hD : 3 ≤ D) : z_Call YC mX5_man D z_i [zR 0, zI a1, zI a2, zI a3] σ (fX5_man a1 a2 a3 σ) := by
  obtain ⟨D, rfl⟩ : ∃ E, D = E + 1 := ⟨D - 1, by omega⟩
  replace hD : 2 ≤ D := by omega
  refine z_entry (lv := [some (zR 0), some (zI a1), some (zI a2), some (zI a3)]) (by decide) rfl (Nat.le_of_ble_eq_true rfl) rfl ?_
  rw [fX5_man]
  refine z_aload_n (pc := 0) dX5_man_0 rfl rfl ?_
  refine gfX5_2 (pc := 1) dX5_man_1 yc_0 w_1_23 rfl ?_
  refine z_iload_n (pc := 4) dX5_man_4 rfl rfl ?_
  refine z_iload_n (pc := 5) dX5_man_5 rfl rfl ?_
  refine z_iload_n (pc := 6) dX5_man_6 rfl rfl ?_
  refine z_V3i (pc := 7) dX5_man_7 lVX5_86 yc_7 rfl (Nat.le_of_ble_eq_true rfl) (kX0_join 7 z_lm_7 a1 a2 a3 σ D (by omega)) (fun r1 s1 => ?_)
  exact z_iret (pc := 10) dX5_man_10 rfl rfl
def fX5_told  (a1 : Int32) (a2 : Int32) (σ : z_Mem) : Option (Int32 × z_Mem) :=
  if a2 = 0 then (z_bd (fX0_trait 7 a2 a1 σ) (fun r1 s1 => some (r1, s1))) else if a2 = 1 then (z_bd (fX0_trait 7 a2 a1 σ) (fun r2 s2 => some (r2, s2))) else if a2 = 2 then (z_bd (fX0_has 7 a1 σ) (fun r3 s3 => if r3 = 0 then (some ((-1000 : Int32), s3)) else (z_bd (fX0_trait 7 a2 a1 s3) (fun r4 s4 => some (r4, s4))))) else if a2 = 3 then (z_bd (fX0_has 7 a1 σ) (fun r5 s5 => if r5 = 0 then (some ((-1000 : Int32), s5)) else (z_bd (fX0_trait 7 a2 a1 s5) (fun r6 s6 => some (r6, s6))))) else if a2 = 4 then (z_bd (fX0_has 7 a1 σ) (fun r7 s7 => if r7 = 0 then (some ((-1000 : Int32), s7)) else (z_bd (fX0_trait 7 a2 a1 s7) (fun r8 s8 => some (r8, s8))))) else if a2 = 5 then (z_bd (fX0_has 7 a1 σ) (fun r9 s9 => if r9 = 0 then (some ((-1000 : Int32), s9)) else (z_bd (fX0_placeOf 7 a1 s9) (fun r10 s10 => some (r10, s10))))) else if a2 = 6 then (z_bd (fX0_has 7 a1 σ) (fun r11 s11 => if r11 = 0 then (some ((-1000 : Int32), s11)) else (z_bd (fX0_spentBy 7 a1 s11) (fun r12 s12 => some (r12, s12))))) else if a2 = 7 then (z_bd (fX0_who 7 a1 σ) (fun r13 s13 => if r13 = (-1 : Int32) then (some ((-1000 : Int32), s13)) else (z_bd (fX0_who 7 a1 s13) (fun r14 s14 => some (r14, s14))))) else if a2 = 8 then (if a1 < 0 then (some ((-1000 : Int32), σ)) else (z_bd (fX0_holds 7 σ) (fun r15 s15 => if r15 ≤ a1 then (some ((-1000 : Int32), s15)) else (z_bd (fX0_holdFrom 7 a1 s15) (fun r16 s16 => some (r16, s16)))))) else some ((-1000 : Int32), σ)
theorem kX5_told   (a1 : Int32) (a2 : Int32) (σ : z_Mem) (D : Nat) (hD : 5 ≤ D) : z_Call YC mX5_told D z_i [zR 0, zI a1, zI a2] σ (fX5_told a1 a2 σ) := by
  obtain ⟨D, rfl⟩ : ∃ E, D = E + 1 := ⟨D - 1, by omega⟩
  replace hD : 4 ≤ D := by omega
  refine z_entry (lv := [some (zR 0), some (zI a1), some (zI a2)]) (by decide) rfl (Nat.le_of_ble_eq_true rfl) rfl ?_
  rw [fX5_told]
  refine z_iload_n (pc := 0) dX5_told_0 rfl rfl ?_
  refine z_tswC (n := 0) (off := 51) (tgt := 52) (pc := 1) dX5_told_1 (by decide) (by decide) (by decide) (by decide) ?_ (fun h0 => ?_)
  · refine z_aload_n (pc := 52) dX5_told_52 rfl rfl ?_
    refine gfX5_2 (pc := 53) dX5_told_53 yc_0 w_1_23 rfl ?_
    refine z_iload_n (pc := 56) dX5_told_56 rfl rfl ?_
    refine z_iload_n (pc := 57) dX5_told_57 rfl rfl ?_
    refine z_V2i (pc := 58) dX5_told_58 lVX5_78 yc_7 rfl (Nat.le_of_ble_eq_true rfl) (kX0_trait 7 z_lm_7 a2 a1 σ D (by omega)) (fun r1 s1 => ?_)
    exact z_iret (pc := 61) dX5_told_61 rfl rfl
  · refine z_tswC (n := 1) (off := 51) (tgt := 52) (pc := 1) dX5_told_1 (by decide) (by decide) (by decide) (by decide) ?_ (fun h1 => ?_)
    · refine z_aload_n (pc := 52) dX5_told_52 rfl rfl ?_
      refine gfX5_2 (pc := 53) dX5_told_53 yc_0 w_1_23 rfl ?_
      refine z_iload_n (pc := 56) dX5_told_56 rfl rfl ?_
      refine z_iload_n (pc := 57) dX5_told_57 rfl rfl ?_
      refine z_V2i (pc := 58) dX5_told_58 lVX5_78 yc_7 rfl (Nat.le_of_ble_eq_true rfl) (kX0_trait 7 z_lm_7 a2 a1 σ D (by omega)) (fun r2 s2 => ?_)
      exact z_iret (pc := 61) dX5_told_61 rfl rfl
    · refine z_tswC (n := 2) (off := 61) (tgt := 62) (pc := 1) dX5_told_1 (by decide) (by decide) (by decide) (by decide) ?_ (fun h2 => ?_)
      · refine z_aload_n (pc := 62) dX5_told_62 rfl rfl ?_
        refine gfX5_2 (pc := 63) dX5_told_63 yc_0 w_1_23 rfl ?_
        refine z_iload_n (pc := 66) dX5_told_66 rfl rfl ?_
        refine z_V1i (pc := 67) dX5_told_67 lVX5_75 yc_7 rfl (Nat.le_of_ble_eq_true rfl) (kX0_has 7 z_lm_7 a1 σ D (by omega)) (fun r3 s3 => ?_)
        refine z_if_eq (tgt := 85) (pc := 70) dX5_told_70 (by decide) (fun _ => ?_) (fun _ => ?_)
        · refine z_sipush_m1000 (pc := 85) dX5_told_85 ?_
          exact z_iret (pc := 88) dX5_told_88 rfl rfl
        · refine z_aload_n (pc := 73) dX5_told_73 rfl rfl ?_
          refine gfX5_2 (pc := 74) dX5_told_74 yc_0 w_1_23 rfl ?_
          refine z_iload_n (pc := 77) dX5_told_77 rfl rfl ?_
          refine z_iload_n (pc := 78) dX5_told_78 rfl rfl ?_
          refine z_V2i (pc := 79) dX5_told_79 lVX5_78 yc_7 rfl (Nat.le_of_ble_eq_true rfl) (kX0_trait 7 z_lm_7 a2 a1 s3 D (by omega)) (fun r4 s4 => ?_)
          refine z_goto (tgt := 88) (pc := 82) dX5_told_82 (by decide) ?_
          exact z_iret (pc := 88) dX5_told_88 rfl rfl
      · refine z_tswC (n := 3) (off := 61) (tgt := 62) (pc := 1) dX5_told_1 (by decide) (by decide) (by decide) (by decide) ?_ (fun h3 => ?_)
        · refine z_aload_n (pc := 62) dX5_told_62 rfl rfl ?_
          refine gfX5_2 (pc := 63) dX5_told_63 yc_0 w_1_23 rfl ?_
          refine z_iload_n (pc := 66) dX5_told_66 rfl rfl ?_
          refine z_V1i (pc := 67) dX5_told_67 lVX5_75 yc_7 rfl (Nat.le_of_ble_eq_true rfl) (kX0_has 7 z_lm_7 a1 σ D (by omega)) (fun r5 s5 => ?_)
          refine z_if_eq (tgt := 85) (pc := 70) dX5_told_70 (by decide) (fun _ => ?_) (fun _ => ?_)
          · refine z_sipush_m1000 (pc := 85) dX5_told_85 ?_
            exact z_iret (pc := 88) dX5_told_88 rfl rfl
          · refine z_aload_n (pc := 73) dX5_told_73 rfl rfl ?_
            refine gfX5_2 (pc := 74) dX5_told_74 yc_0 w_1_23 rfl ?_
            refine z_iload_n (pc := 77) dX5_told_77 rfl rfl ?_
            refine z_iload_n (pc := 78) dX5_told_78 rfl rfl ?_
            refine z_V2i (pc := 79) dX5_told_79 lVX5_78 yc_7 rfl (Nat.le_of_ble_eq_true rfl) (kX0_trait 7 z_lm_7 a2 a1 s5 D (by omega)) (fun r6 s6 => ?_)
            refine z_goto (tgt := 88) (pc := 82) dX5_told_82 (by decide) ?_
            exact z_iret (pc := 88) dX5_told_88 rfl rfl
        · refine z_tswC (n := 4) (off := 61) (tgt := 62) (pc := 1) dX5_told_1 (by decide) (by decide) (by decide) (by decide) ?_ (fun h4 => ?_)
          · refine z_aload_n (pc := 62) dX5_told_62 rfl rfl ?_
            refine gfX5_2 (pc := 63) dX5_told_63 yc_0 w_1_23 rfl ?_
            refine z_iload_n (pc := 66) dX5_told_66 rfl rfl ?_
            refine z_V1i (pc := 67) dX5_told_67 lVX5_75 yc_7 rfl (Nat.le_of_ble_eq_true rfl) (kX0_has 7 z_lm_7 a1 σ D (by omega)) (fun r7 s7 => ?_)
            refine z_if_eq (tgt := 85) (pc := 70) dX5_told_70 (by decide) (fun _ => ?_) (fun _ => ?_)
            · refine z_sipush_m1000 (pc := 85) dX5_told_85 ?_
              exact z_iret (pc := 88) dX5_told_88 rfl rfl
            · refine z_aload_n (pc := 73) dX5_told_73 rfl rfl ?_
              refine gfX5_2 (pc := 74) dX5_told_74 yc_0 w_1_23 rfl ?_
              refine z_iload_n (pc := 77) dX5_told_77 rfl rfl ?_
              refine z_iload_n (pc := 78) dX5_told_78 rfl rfl ?_
              refine z_V2i (pc := 79) dX5_told_79 lVX5_78 yc_7 rfl (Nat.le_of_ble_eq_true rfl) (kX0_trait 7 z_lm_7 a2 a1 s7 D (by omega)) (fun r8 s8 => ?_)
              refine z_goto (tgt := 88) (pc := 82) dX5_told_82 (by decide) ?_
              exact z_iret (pc := 88) dX5_told_88 rfl rfl
          · refine z_tswC (n := 5) (off := 88) (tgt := 89) (pc := 1) dX5_told_1 (by decide) (by decide) (by decide) (by decide) ?_ (fun h5 => ?_)
            · refine z_aload_n (pc := 89) dX5_told_89 rfl rfl ?_
              refine gfX5_2 (pc := 90) dX5_told_90 yc_0 w_1_23 rfl ?_
              refine z_iload_n (pc := 93) dX5_told_93 rfl rfl ?_
              refine z_V1i (pc := 94) dX5_told_94 lVX5_75 yc_7 rfl (Nat.le_of_ble_eq_true rfl) (kX0_has 7 z_lm_7 a1 σ D (by omega)) (fun r9 s9 => ?_)
              refine z_if_eq (tgt := 111) (pc := 97) dX5_told_97 (by decide) (fun _ => ?_) (fun _ => ?_)
              · refine z_sipush_m1000 (pc := 111) dX5_told_111 ?_
                exact z_iret (pc := 114) dX5_told_114 rfl rfl
              · refine z_aload_n (pc := 100) dX5_told_100 rfl rfl ?_
                refine gfX5_2 (pc := 101) dX5_told_101 yc_0 w_1_23 rfl ?_
                refine z_iload_n (pc := 104) dX5_told_104 rfl rfl ?_
                refine z_V1i (pc := 105) dX5_told_105 lVX5_90 yc_7 rfl (Nat.le_of_ble_eq_true rfl) (kX0_placeOf 7 z_lm_7 a1 s9 D (by omega)) (fun r10 s10 => ?_)
                refine z_goto (tgt := 114) (pc := 108) dX5_told_108 (by decide) ?_
                exact z_iret (pc := 114) dX5_told_114 rfl rfl
            · refine z_tswC (n := 6) (off := 114) (tgt := 115) (pc := 1) dX5_told_1 (by decide) (by decide) (by decide) (by decide) ?_ (fun h6 => ?_)
              · refine z_aload_n (pc := 115) dX5_told_115 rfl rfl ?_
                refine gfX5_2 (pc := 116) dX5_told_116 yc_0 w_1_23 rfl ?_
                refine z_iload_n (pc := 119) dX5_told_119 rfl rfl ?_
                refine z_V1i (pc := 120) dX5_told_120 lVX5_75 yc_7 rfl (Nat.le_of_ble_eq_true rfl) (kX0_has 7 z_lm_7 a1 σ D (by omega)) (fun r11 s11 => ?_)
                refine z_if_eq (tgt := 137) (pc := 123) dX5_told_123 (by decide) (fun _ => ?_) (fun _ => ?_)
                · refine z_sipush_m1000 (pc := 137) dX5_told_137 ?_
                  exact z_iret (pc := 140) dX5_told_140 rfl rfl
                · refine z_aload_n (pc := 126) dX5_told_126 rfl rfl ?_
                  refine gfX5_2 (pc := 127) dX5_told_127 yc_0 w_1_23 rfl ?_
                  refine z_iload_n (pc := 130) dX5_told_130 rfl rfl ?_
                  refine z_V1i (pc := 131) dX5_told_131 lVX5_93 yc_7 rfl (Nat.le_of_ble_eq_true rfl) (kX0_spentBy 7 z_lm_7 a1 s11 D (by omega)) (fun r12 s12 => ?_)
                  refine z_goto (tgt := 140) (pc := 134) dX5_told_134 (by decide) ?_
                  exact z_iret (pc := 140) dX5_told_140 rfl rfl
              · refine z_tswC (n := 7) (off := 140) (tgt := 141) (pc := 1) dX5_told_1 (by decide) (by decide) (by decide) (by decide) ?_ (fun h7 => ?_)
                · refine z_aload_n (pc := 141) dX5_told_141 rfl rfl ?_
                  refine gfX5_2 (pc := 142) dX5_told_142 yc_0 w_1_23 rfl ?_
                  refine z_iload_n (pc := 145) dX5_told_145 rfl rfl ?_
                  refine z_V1i (pc := 146) dX5_told_146 lVX5_96 yc_7 rfl (Nat.le_of_ble_eq_true rfl) (kX0_who 7 z_lm_7 a1 σ D (by omega)) (fun r13 s13 => ?_)
                  refine z_iconst_m1 (pc := 149) dX5_told_149 ?_
                  refine z_icmp_eq (tgt := 164) (pc := 150) dX5_told_150 (by decide) (fun _ => ?_) (fun _ => ?_)
                  · refine z_sipush_m1000 (pc := 164) dX5_told_164 ?_
                    exact z_iret (pc := 167) dX5_told_167 rfl rfl
                  · refine z_aload_n (pc := 153) dX5_told_153 rfl rfl ?_
                    refine gfX5_2 (pc := 154) dX5_told_154 yc_0 w_1_23 rfl ?_
                    refine z_iload_n (pc := 157) dX5_told_157 rfl rfl ?_
                    refine z_V1i (pc := 158) dX5_told_158 lVX5_96 yc_7 rfl (Nat.le_of_ble_eq_true rfl) (kX0_who 7 z_lm_7 a1 s13 D (by omega)) (fun r14 s14 => ?_)
                    refine z_goto (tgt := 167) (pc := 161) dX5_told_161 (by decide) ?_
                    exact z_iret (pc := 167) dX5_told_167 rfl rfl
                · refine z_tswC (n := 8) (off := 167) (tgt := 168) (pc := 1) dX5_told_1 (by decide) (by decide) (by decide) (by decide) ?_ (fun h8 => ?_)
                  · refine z_iload_n (pc := 168) dX5_told_168 rfl rfl ?_
                    refine z_if_lt (tgt := 194) (pc := 169) dX5_told_169 (by decide) (fun _ => ?_) (fun _ => ?_)
                    · refine z_sipush_m1000 (pc := 194) dX5_told_194 ?_
                      exact z_iret (pc := 197) dX5_told_197 rfl rfl
                    · refine z_iload_n (pc := 172) dX5_told_172 rfl rfl ?_
                      refine z_aload_n (pc := 173) dX5_told_173 rfl rfl ?_
                      refine gfX5_2 (pc := 174) dX5_told_174 yc_0 w_1_23 rfl ?_
                      refine z_V0i (pc := 177) dX5_told_177 lVX5_99 yc_7 rfl (Nat.le_of_ble_eq_true rfl) (kX0_holds 7 z_lm_7 σ D (by omega)) (fun r15 s15 => ?_)
                      refine z_icmp_ge (tgt := 194) (pc := 180) dX5_told_180 (by decide) (fun _ => ?_) (fun _ => ?_)
                      · refine z_sipush_m1000 (pc := 194) dX5_told_194 ?_
                        exact z_iret (pc := 197) dX5_told_197 rfl rfl
                      · refine z_aload_n (pc := 183) dX5_told_183 rfl rfl ?_
                        refine gfX5_2 (pc := 184) dX5_told_184 yc_0 w_1_23 rfl ?_
                        refine z_iload_n (pc := 187) dX5_told_187 rfl rfl ?_
                        refine z_V1i (pc := 188) dX5_told_188 lVX5_102 yc_7 rfl (Nat.le_of_ble_eq_true rfl) (kX0_holdFrom 7 z_lm_7 a1 s15 D (by omega)) (fun r16 s16 => ?_)
                        refine z_goto (tgt := 197) (pc := 191) dX5_told_191 (by decide) ?_
                        exact z_iret (pc := 197) dX5_told_197 rfl rfl
                  · refine z_tswD (tgt := 198) (pc := 1) dX5_told_1 (by have t0 := lv_neT h0 (a := 0) rfl; have t1 := lv_neT h1 (a := 1) rfl; have t2 := lv_neT h2 (a := 2) rfl; have t3 := lv_neT h3 (a := 3) rfl; have t4 := lv_neT h4 (a := 4) rfl; have t5 := lv_neT h5 (a := 5) rfl; have t6 := lv_neT h6 (a := 6) rfl; have t7 := lv_neT h7 (a := 7) rfl; have t8 := lv_neT h8 (a := 8) rfl; omega) (by decide) ?_
                    refine z_sipush_m1000 (pc := 198) dX5_told_198 ?_
                    exact z_iret (pc := 201) dX5_told_201 rfl rfl
def fX5_grips  (a1 : Int32) (a2 : Int32) (σ : z_Mem) : Option (Int32 × z_Mem) :=
  z_bd (fX0_has 7 a1 σ) (fun r1 s1 => if r1 = 0 then (some ((-2 : Int32), s1)) else (z_bd (fX0_has 7 a2 s1) (fun r2 s2 => if r2 = 0 then (some ((-2 : Int32), s2)) else (if a1 = a2 then (some ((-2 : Int32), s2)) else (z_bd (fX0_gripOf 7 a1 a2 s2) (fun r3 s3 => some (r3, s3)))))))
theorem kX5_grips   (a1 : Int32) (a2 : Int32) (σ : z_Mem) (D : Nat) (hD : 4 ≤ D) : z_Call YC mX5_grips D z_i [zR 0, zI a1, zI a2] σ (fX5_grips a1 a2 σ) := by
  obtain ⟨D, rfl⟩ : ∃ E, D = E + 1 := ⟨D - 1, by omega⟩
  replace hD : 3 ≤ D := by omega
  refine z_entry (lv := [some (zR 0), some (zI a1), some (zI a2)]) (by decide) rfl (Nat.le_of_ble_eq_true rfl) rfl ?_
  rw [fX5_grips]
  refine z_aload_n (pc := 0) dX5_grips_0 rfl rfl ?_
  refine gfX5_2 (pc := 1) dX5_grips_1 yc_0 w_1_23 rfl ?_
  refine z_iload_n (pc := 4) dX5_grips_4 rfl rfl ?_
  refine z_V1i (pc := 5) dX5_grips_5 lVX5_75 yc_7 rfl (Nat.le_of_ble_eq_true rfl) (kX0_has 7 z_lm_7 a1 σ D (by omega)) (fun r1 s1 => ?_)
  refine z_if_eq (tgt := 27) (pc := 8) dX5_grips_8 (by decide) (fun _ => ?_) (fun _ => ?_)
  · refine z_bipush_m2 (pc := 27) dX5_grips_27 ?_
    exact z_iret (pc := 29) dX5_grips_29 rfl rfl
  · refine z_aload_n (pc := 11) dX5_grips_11 rfl rfl ?_
    refine gfX5_2 (pc := 12) dX5_grips_12 yc_0 w_1_23 rfl ?_
    refine z_iload_n (pc := 15) dX5_grips_15 rfl rfl ?_
    refine z_V1i (pc := 16) dX5_grips_16 lVX5_75 yc_7 rfl (Nat.le_of_ble_eq_true rfl) (kX0_has 7 z_lm_7 a2 s1 D (by omega)) (fun r2 s2 => ?_)
    refine z_if_eq (tgt := 27) (pc := 19) dX5_grips_19 (by decide) (fun _ => ?_) (fun _ => ?_)
    · refine z_bipush_m2 (pc := 27) dX5_grips_27 ?_
      exact z_iret (pc := 29) dX5_grips_29 rfl rfl
    · refine z_iload_n (pc := 22) dX5_grips_22 rfl rfl ?_
      refine z_iload_n (pc := 23) dX5_grips_23 rfl rfl ?_
      refine z_icmp_ne (tgt := 30) (pc := 24) dX5_grips_24 (by decide) (fun _ => ?_) (fun _ => ?_)
      · refine z_aload_n (pc := 30) dX5_grips_30 rfl rfl ?_
        refine gfX5_2 (pc := 31) dX5_grips_31 yc_0 w_1_23 rfl ?_
        refine z_iload_n (pc := 34) dX5_grips_34 rfl rfl ?_
        refine z_iload_n (pc := 35) dX5_grips_35 rfl rfl ?_
        refine z_V2i (pc := 36) dX5_grips_36 lVX5_105 yc_7 rfl (Nat.le_of_ble_eq_true rfl) (kX0_gripOf 7 z_lm_7 a1 a2 s2 D (by omega)) (fun r3 s3 => ?_)
        exact z_iret (pc := 39) dX5_grips_39 rfl rfl
      · refine z_bipush_m2 (pc := 27) dX5_grips_27 ?_
        exact z_iret (pc := 29) dX5_grips_29 rfl rfl
def fX5_hands  (a1 : Int32) (a2 : Int32) (σ : z_Mem) : Option (Int32 × z_Mem) :=
  z_bd (fX0_has 7 a1 σ) (fun r1 s1 => if r1 = 0 then (some ((-2 : Int32), s1)) else (if a2 < 0 then (some ((-2 : Int32), s1)) else (if a2 ≤ (99 : Int32) then (z_bd (fX0_handedOn 7 a1 a2 s1) (fun r2 s2 => some (r2, s2))) else (some ((-2 : Int32), s1)))))
theorem kX5_hands   (a1 : Int32) (a2 : Int32) (σ : z_Mem) (D : Nat) (hD : 4 ≤ D) : z_Call YC mX5_hands D z_i [zR 0, zI a1, zI a2] σ (fX5_hands a1 a2 σ) := by
  obtain ⟨D, rfl⟩ : ∃ E, D = E + 1 := ⟨D - 1, by omega⟩
  replace hD : 3 ≤ D := by omega
  refine z_entry (lv := [some (zR 0), some (zI a1), some (zI a2)]) (by decide) rfl (Nat.le_of_ble_eq_true rfl) rfl ?_
  rw [fX5_hands]
  refine z_aload_n (pc := 0) dX5_hands_0 rfl rfl ?_
  refine gfX5_2 (pc := 1) dX5_hands_1 yc_0 w_1_23 rfl ?_
  refine z_iload_n (pc := 4) dX5_hands_4 rfl rfl ?_
  refine z_V1i (pc := 5) dX5_hands_5 lVX5_75 yc_7 rfl (Nat.le_of_ble_eq_true rfl) (kX0_has 7 z_lm_7 a1 σ D (by omega)) (fun r1 s1 => ?_)
  refine z_if_eq (tgt := 21) (pc := 8) dX5_hands_8 (by decide) (fun _ => ?_) (fun _ => ?_)
  · refine z_bipush_m2 (pc := 21) dX5_hands_21 ?_
    exact z_iret (pc := 23) dX5_hands_23 rfl rfl
  · refine z_iload_n (pc := 11) dX5_hands_11 rfl rfl ?_
    refine z_if_lt (tgt := 21) (pc := 12) dX5_hands_12 (by decide) (fun _ => ?_) (fun _ => ?_)
    · refine z_bipush_m2 (pc := 21) dX5_hands_21 ?_
      exact z_iret (pc := 23) dX5_hands_23 rfl rfl
    · refine z_iload_n (pc := 15) dX5_hands_15 rfl rfl ?_
      refine z_bipush_99 (pc := 16) dX5_hands_16 ?_
      refine z_icmp_le (tgt := 24) (pc := 18) dX5_hands_18 (by decide) (fun _ => ?_) (fun _ => ?_)
      · refine z_aload_n (pc := 24) dX5_hands_24 rfl rfl ?_
        refine gfX5_2 (pc := 25) dX5_hands_25 yc_0 w_1_23 rfl ?_
        refine z_iload_n (pc := 28) dX5_hands_28 rfl rfl ?_
        refine z_iload_n (pc := 29) dX5_hands_29 rfl rfl ?_
        refine z_V2i (pc := 30) dX5_hands_30 lVX5_108 yc_7 rfl (Nat.le_of_ble_eq_true rfl) (kX0_handedOn 7 z_lm_7 a1 a2 s1 D (by omega)) (fun r2 s2 => ?_)
        exact z_iret (pc := 33) dX5_hands_33 rfl rfl
      · refine z_bipush_m2 (pc := 21) dX5_hands_21 ?_
        exact z_iret (pc := 23) dX5_hands_23 rfl rfl
def fX5_feed  (a1 : Int32) (σ : z_Mem) : Option (Int32 × z_Mem) :=
  if a1 < 0 then (some ((-2 : Int32), σ)) else (if a1 ≤ (255 : Int32) then (z_bd (fX2_add a1 σ) (fun r1 s1 => if r1 = 0 then (some ((-4 : Int32), s1)) else (some (s1.1 5 2, s1)))) else (some ((-2 : Int32), σ)))
theorem kX5_feed   (a1 : Int32) (σ : z_Mem) (D : Nat) (hD : 2 ≤ D) : z_Call YC mX5_feed D z_i [zR 0, zI a1] σ (fX5_feed a1 σ) := by
  obtain ⟨D, rfl⟩ : ∃ E, D = E + 1 := ⟨D - 1, by omega⟩
  replace hD : 1 ≤ D := by omega
  refine z_entry (lv := [some (zR 0), some (zI a1)]) (by decide) rfl (Nat.le_of_ble_eq_true rfl) rfl ?_
  rw [fX5_feed]
  refine z_iload_n (pc := 0) dX5_feed_0 rfl rfl ?_
  refine z_if_lt (tgt := 11) (pc := 1) dX5_feed_1 (by decide) (fun _ => ?_) (fun _ => ?_)
  · refine z_bipush_m2 (pc := 11) dX5_feed_11 ?_
    exact z_iret (pc := 13) dX5_feed_13 rfl rfl
  · refine z_iload_n (pc := 4) dX5_feed_4 rfl rfl ?_
    refine z_sipush_255 (pc := 5) dX5_feed_5 ?_
    refine z_icmp_le (tgt := 14) (pc := 8) dX5_feed_8 (by decide) (fun _ => ?_) (fun _ => ?_)
    · refine z_aload_n (pc := 14) dX5_feed_14 rfl rfl ?_
      refine gfX5_1 (pc := 15) dX5_feed_15 yc_0 w_1_19 rfl ?_
      refine z_iload_n (pc := 18) dX5_feed_18 rfl rfl ?_
      refine z_V1i (pc := 19) dX5_feed_19 lVX5_64 yc_5 rfl (Nat.le_of_ble_eq_true rfl) (kX2_add a1 σ D (by omega)) (fun r1 s1 => ?_)
      refine z_if_eq (tgt := 35) (pc := 22) dX5_feed_22 (by decide) (fun _ => ?_) (fun _ => ?_)
      · refine z_bipush_m4 (pc := 35) dX5_feed_35 ?_
        exact z_iret (pc := 37) dX5_feed_37 rfl rfl
      · refine z_aload_n (pc := 25) dX5_feed_25 rfl rfl ?_
        refine gfX5_1 (pc := 26) dX5_feed_26 yc_0 w_1_19 rfl ?_
        refine gfX2_2 (pc := 29) dX5_feed_29 yc_5 w_22_23 rfl ?_
        refine z_goto (tgt := 37) (pc := 32) dX5_feed_32 (by decide) ?_
        exact z_iret (pc := 37) dX5_feed_37 rfl rfl
    · refine z_bipush_m2 (pc := 11) dX5_feed_11 ?_
      exact z_iret (pc := 13) dX5_feed_13 rfl rfl
def fX5_text   (σ : z_Mem) : Option (Int32 × z_Mem) :=
  if σ.1 1 3 < (6 : Int32) then (z_bd (fX2_read σ) (fun r1 s1 => if r1 = (-1 : Int32) then (some ((s1.1 1 3) - (1 : Int32), s1)) else (some ((-100 : Int32) - r1, s1)))) else (some ((-4 : Int32), σ))
theorem kX5_text    (σ : z_Mem) (D : Nat) (hD : 74 ≤ D) : z_Call YC mX5_text D z_i [zR 0] σ (fX5_text σ) := by
  obtain ⟨D, rfl⟩ : ∃ E, D = E + 1 := ⟨D - 1, by omega⟩
  replace hD : 73 ≤ D := by omega
  refine z_entry (lv := [some (zR 0), none]) (by decide) rfl (Nat.le_of_ble_eq_true rfl) rfl ?_
  rw [fX5_text]
  refine z_aload_n (pc := 0) dX5_text_0 rfl rfl ?_
  refine gfX5_0 (pc := 1) dX5_text_1 yc_0 w_1_15 rfl ?_
  refine gfX4_3 (pc := 4) dX5_text_4 yc_1 w_23_10 rfl ?_
  refine z_bipush_6 (pc := 7) dX5_text_7 ?_
  refine z_icmp_lt (tgt := 15) (pc := 9) dX5_text_9 (by decide) (fun _ => ?_) (fun _ => ?_)
  · refine z_aload_n (pc := 15) dX5_text_15 rfl rfl ?_
    refine gfX5_1 (pc := 16) dX5_text_16 yc_0 w_1_19 rfl ?_
    refine z_V0i (pc := 19) dX5_text_19 lVX5_68 yc_5 rfl (Nat.le_of_ble_eq_true rfl) (kX2_read σ D (by omega)) (fun r1 s1 => ?_)
    refine z_istore_n (pc := 22) dX5_text_22 rfl (Nat.le_of_ble_eq_true rfl) (z_so2_1 rfl) ?_
    refine z_iload_n (pc := 23) dX5_text_23 rfl rfl ?_
    refine z_iconst_m1 (pc := 24) dX5_text_24 ?_
    refine z_icmp_ne (tgt := 40) (pc := 25) dX5_text_25 (by decide) (fun _ => ?_) (fun _ => ?_)
    · refine z_bipush_m100 (pc := 40) dX5_text_40 ?_
      refine z_iload_n (pc := 42) dX5_text_42 rfl rfl ?_
      refine z_isub (pc := 43) dX5_text_43 ?_
      exact z_iret (pc := 44) dX5_text_44 rfl rfl
    · refine z_aload_n (pc := 28) dX5_text_28 rfl rfl ?_
      refine gfX5_0 (pc := 29) dX5_text_29 yc_0 w_1_15 rfl ?_
      refine gfX4_3 (pc := 32) dX5_text_32 yc_1 w_23_10 rfl ?_
      refine z_iconst_1 (pc := 35) dX5_text_35 ?_
      refine z_isub (pc := 36) dX5_text_36 ?_
      refine z_goto (tgt := 44) (pc := 37) dX5_text_37 (by decide) ?_
      exact z_iret (pc := 44) dX5_text_44 rfl rfl
  · refine z_bipush_m4 (pc := 12) dX5_text_12 ?_
    exact z_iret (pc := 14) dX5_text_14 rfl rfl
def fX5_force  (a1 : Int32) (σ : z_Mem) : Option (Int32 × z_Mem) :=
  if a1 < 0 then (some ((-2 : Int32), σ)) else (if a1 < σ.1 1 3 then (z_st (z_pt σ 7 9 a1) (fun s1 => some (σ.1 7 9, s1))) else (some ((-2 : Int32), σ)))
theorem kX5_force   (a1 : Int32) (σ : z_Mem) (D : Nat) (hD : 1 ≤ D) : z_Call YC mX5_force D z_i [zR 0, zI a1] σ (fX5_force a1 σ) := by
  obtain ⟨D, rfl⟩ : ∃ E, D = E + 1 := ⟨D - 1, by omega⟩
  replace hD : 0 ≤ D := by omega
  refine z_entry (lv := [some (zR 0), some (zI a1), none]) (by decide) rfl (Nat.le_of_ble_eq_true rfl) rfl ?_
  rw [fX5_force]
  refine z_iload_n (pc := 0) dX5_force_0 rfl rfl ?_
  refine z_if_lt (tgt := 15) (pc := 1) dX5_force_1 (by decide) (fun _ => ?_) (fun _ => ?_)
  · refine z_bipush_m2 (pc := 15) dX5_force_15 ?_
    exact z_iret (pc := 17) dX5_force_17 rfl rfl
  · refine z_iload_n (pc := 4) dX5_force_4 rfl rfl ?_
    refine z_aload_n (pc := 5) dX5_force_5 rfl rfl ?_
    refine gfX5_0 (pc := 6) dX5_force_6 yc_0 w_1_15 rfl ?_
    refine gfX4_3 (pc := 9) dX5_force_9 yc_1 w_23_10 rfl ?_
    refine z_icmp_lt (tgt := 18) (pc := 12) dX5_force_12 (by decide) (fun _ => ?_) (fun _ => ?_)
    · refine z_aload_n (pc := 18) dX5_force_18 rfl rfl ?_
      refine gfX5_2 (pc := 19) dX5_force_19 yc_0 w_1_23 rfl ?_
      refine gfX0_9 (pc := 22) dX5_force_22 yc_7 w_23_19 rfl ?_
      refine z_istore_n (pc := 25) dX5_force_25 rfl (Nat.le_of_ble_eq_true rfl) (z_so3_2 rfl) ?_
      refine z_aload_n (pc := 26) dX5_force_26 rfl rfl ?_
      refine gfX5_2 (pc := 27) dX5_force_27 yc_0 w_1_23 rfl ?_
      refine z_iload_n (pc := 30) dX5_force_30 rfl rfl ?_
      refine pfX0_9 (pc := 31) dX5_force_31 yc_7 w_23_19 rfl ?_
      refine z_let (fun s1 => ?_)
      refine z_iload_n (pc := 34) dX5_force_34 rfl rfl ?_
      exact z_iret (pc := 35) dX5_force_35 rfl rfl
    · refine z_bipush_m2 (pc := 15) dX5_force_15 ?_
      exact z_iret (pc := 17) dX5_force_17 rfl rfl
def fX5_out  (a1 : Int32) (σ : z_Mem) : Option (Int32 × z_Mem) :=
  z_bd (fX0_has 7 a1 σ) (fun r1 s1 => if r1 = 0 then (some ((-2 : Int32), s1)) else (z_bd (fX0_placeOf 7 a1 s1) (fun r2 s2 => if r2 = (-1 : Int32) then (some ((-3 : Int32), s2)) else (z_bd (fX0_leave 7 r2 s2) (fun _ s3 => some (r2, s3))))))
theorem kX5_out   (a1 : Int32) (σ : z_Mem) (D : Nat) (hD : 2 ≤ D) : z_Call YC mX5_out D z_i [zR 0, zI a1] σ (fX5_out a1 σ) := by
  obtain ⟨D, rfl⟩ : ∃ E, D = E + 1 := ⟨D - 1, by omega⟩
  replace hD : 1 ≤ D := by omega
  refine z_entry (lv := [some (zR 0), some (zI a1), none]) (by decide) rfl (Nat.le_of_ble_eq_true rfl) rfl ?_
  rw [fX5_out]
  refine z_aload_n (pc := 0) dX5_out_0 rfl rfl ?_
  refine gfX5_2 (pc := 1) dX5_out_1 yc_0 w_1_23 rfl ?_
  refine z_iload_n (pc := 4) dX5_out_4 rfl rfl ?_
  refine z_V1i (pc := 5) dX5_out_5 lVX5_75 yc_7 rfl (Nat.le_of_ble_eq_true rfl) (kX0_has 7 z_lm_7 a1 σ D (by omega)) (fun r1 s1 => ?_)
  refine z_if_ne (tgt := 14) (pc := 8) dX5_out_8 (by decide) (fun _ => ?_) (fun _ => ?_)
  · refine z_aload_n (pc := 14) dX5_out_14 rfl rfl ?_
    refine gfX5_2 (pc := 15) dX5_out_15 yc_0 w_1_23 rfl ?_
    refine z_iload_n (pc := 18) dX5_out_18 rfl rfl ?_
    refine z_V1i (pc := 19) dX5_out_19 lVX5_90 yc_7 rfl (Nat.le_of_ble_eq_true rfl) (kX0_placeOf 7 z_lm_7 a1 s1 D (by omega)) (fun r2 s2 => ?_)
    refine z_istore_n (pc := 22) dX5_out_22 rfl (Nat.le_of_ble_eq_true rfl) (z_so3_2 rfl) ?_
    refine z_iload_n (pc := 23) dX5_out_23 rfl rfl ?_
    refine z_iconst_m1 (pc := 24) dX5_out_24 ?_
    refine z_icmp_ne (tgt := 31) (pc := 25) dX5_out_25 (by decide) (fun _ => ?_) (fun _ => ?_)
    · refine z_aload_n (pc := 31) dX5_out_31 rfl rfl ?_
      refine gfX5_2 (pc := 32) dX5_out_32 yc_0 w_1_23 rfl ?_
      refine z_iload_n (pc := 35) dX5_out_35 rfl rfl ?_
      refine z_V1u (pc := 36) dX5_out_36 lVX5_121 yc_7 rfl (Nat.le_of_ble_eq_true rfl) (kX0_leave 7 z_lm_7 r2 s2 D (by omega)) (fun _ s3 => ?_)
      refine z_iload_n (pc := 39) dX5_out_39 rfl rfl ?_
      exact z_iret (pc := 40) dX5_out_40 rfl rfl
    · refine z_bipush_m3 (pc := 28) dX5_out_28 ?_
      exact z_iret (pc := 30) dX5_out_30 rfl rfl
  · refine z_bipush_m2 (pc := 11) dX5_out_11 ?_
    exact z_iret (pc := 13) dX5_out_13 rfl rfl
def fX5_into  (a1 : Int32) (a2 : Int32) (σ : z_Mem) : Option (Int32 × z_Mem) :=
  z_bd (fX0_has 7 a1 σ) (fun r1 s1 => if r1 = 0 then (some ((-2 : Int32), s1)) else (if a2 < 0 then (some ((-2 : Int32), s1)) else (if a2 ≤ s1.1 7 6 then (z_bd (fX0_placeOf 7 a1 s1) (fun r2 s2 => if r2 = (-1 : Int32) then (z_bd (fX0_enter 7 a1 a2 s2) (fun _ s3 => some (s3.1 7 6, s3))) else (some ((-3 : Int32), s2)))) else (some ((-2 : Int32), s1)))))
theorem kX5_into   (a1 : Int32) (a2 : Int32) (σ : z_Mem) (D : Nat) (hD : 2 ≤ D) : z_Call YC mX5_into D z_i [zR 0, zI a1, zI a2] σ (fX5_into a1 a2 σ) := by
  obtain ⟨D, rfl⟩ : ∃ E, D = E + 1 := ⟨D - 1, by omega⟩
  replace hD : 1 ≤ D := by omega
  refine z_entry (lv := [some (zR 0), some (zI a1), some (zI a2)]) (by decide) rfl (Nat.le_of_ble_eq_true rfl) rfl ?_
  rw [fX5_into]
  refine z_aload_n (pc := 0) dX5_into_0 rfl rfl ?_
  refine gfX5_2 (pc := 1) dX5_into_1 yc_0 w_1_23 rfl ?_
  refine z_iload_n (pc := 4) dX5_into_4 rfl rfl ?_
  refine z_V1i (pc := 5) dX5_into_5 lVX5_75 yc_7 rfl (Nat.le_of_ble_eq_true rfl) (kX0_has 7 z_lm_7 a1 σ D (by omega)) (fun r1 s1 => ?_)
  refine z_if_eq (tgt := 26) (pc := 8) dX5_into_8 (by decide) (fun _ => ?_) (fun _ => ?_)
  · refine z_bipush_m2 (pc := 26) dX5_into_26 ?_
    exact z_iret (pc := 28) dX5_into_28 rfl rfl
  · refine z_iload_n (pc := 11) dX5_into_11 rfl rfl ?_
    refine z_if_lt (tgt := 26) (pc := 12) dX5_into_12 (by decide) (fun _ => ?_) (fun _ => ?_)
    · refine z_bipush_m2 (pc := 26) dX5_into_26 ?_
      exact z_iret (pc := 28) dX5_into_28 rfl rfl
    · refine z_iload_n (pc := 15) dX5_into_15 rfl rfl ?_
      refine z_aload_n (pc := 16) dX5_into_16 rfl rfl ?_
      refine gfX5_2 (pc := 17) dX5_into_17 yc_0 w_1_23 rfl ?_
      refine gfX0_6 (pc := 20) dX5_into_20 yc_7 w_24_20 rfl ?_
      refine z_icmp_le (tgt := 29) (pc := 23) dX5_into_23 (by decide) (fun _ => ?_) (fun _ => ?_)
      · refine z_aload_n (pc := 29) dX5_into_29 rfl rfl ?_
        refine gfX5_2 (pc := 30) dX5_into_30 yc_0 w_1_23 rfl ?_
        refine z_iload_n (pc := 33) dX5_into_33 rfl rfl ?_
        refine z_V1i (pc := 34) dX5_into_34 lVX5_90 yc_7 rfl (Nat.le_of_ble_eq_true rfl) (kX0_placeOf 7 z_lm_7 a1 s1 D (by omega)) (fun r2 s2 => ?_)
        refine z_iconst_m1 (pc := 37) dX5_into_37 ?_
        refine z_icmp_eq (tgt := 44) (pc := 38) dX5_into_38 (by decide) (fun _ => ?_) (fun _ => ?_)
        · refine z_aload_n (pc := 44) dX5_into_44 rfl rfl ?_
          refine gfX5_2 (pc := 45) dX5_into_45 yc_0 w_1_23 rfl ?_
          refine z_iload_n (pc := 48) dX5_into_48 rfl rfl ?_
          refine z_iload_n (pc := 49) dX5_into_49 rfl rfl ?_
          refine z_V2u (pc := 50) dX5_into_50 lVX5_128 yc_7 rfl (Nat.le_of_ble_eq_true rfl) (kX0_enter 7 z_lm_7 a1 a2 s2 D (by omega)) (fun _ s3 => ?_)
          refine z_aload_n (pc := 53) dX5_into_53 rfl rfl ?_
          refine gfX5_2 (pc := 54) dX5_into_54 yc_0 w_1_23 rfl ?_
          refine gfX0_6 (pc := 57) dX5_into_57 yc_7 w_24_20 rfl ?_
          exact z_iret (pc := 60) dX5_into_60 rfl rfl
        · refine z_bipush_m3 (pc := 41) dX5_into_41 ?_
          exact z_iret (pc := 43) dX5_into_43 rfl rfl
      · refine z_bipush_m2 (pc := 26) dX5_into_26 ?_
        exact z_iret (pc := 28) dX5_into_28 rfl rfl
def fX5_swap  (a1 : Int32) (a2 : Int32) (σ : z_Mem) : Option (Int32 × z_Mem) :=
  z_bd (fX0_placeOf 7 a1 σ) (fun r1 s1 => z_bd (fX0_placeOf 7 a2 s1) (fun r2 s2 => if a1 = a2 then (some ((-2 : Int32), s2)) else (if r1 = (-1 : Int32) then (some ((-2 : Int32), s2)) else (if r2 = (-1 : Int32) then (some ((-2 : Int32), s2)) else (z_bd (fX0_exchange 7 r1 r2 s2) (fun _ s3 => z_bd (fX0_weakest 7 s3) (fun r4 s4 => some (r4, s4))))))))
theorem kX5_swap   (a1 : Int32) (a2 : Int32) (σ : z_Mem) (D : Nat) (hD : 6 ≤ D) : z_Call YC mX5_swap D z_i [zR 0, zI a1, zI a2] σ (fX5_swap a1 a2 σ) := by
  obtain ⟨D, rfl⟩ : ∃ E, D = E + 1 := ⟨D - 1, by omega⟩
  replace hD : 5 ≤ D := by omega
  refine z_entry (lv := [some (zR 0), some (zI a1), some (zI a2), none, none]) (by decide) rfl (Nat.le_of_ble_eq_true rfl) rfl ?_
  rw [fX5_swap]
  refine z_aload_n (pc := 0) dX5_swap_0 rfl rfl ?_
  refine gfX5_2 (pc := 1) dX5_swap_1 yc_0 w_1_23 rfl ?_
  refine z_iload_n (pc := 4) dX5_swap_4 rfl rfl ?_
  refine z_V1i (pc := 5) dX5_swap_5 lVX5_90 yc_7 rfl (Nat.le_of_ble_eq_true rfl) (kX0_placeOf 7 z_lm_7 a1 σ D (by omega)) (fun r1 s1 => ?_)
  refine z_istore_n (pc := 8) dX5_swap_8 rfl (Nat.le_of_ble_eq_true rfl) (z_so5_3 rfl) ?_
  refine z_aload_n (pc := 9) dX5_swap_9 rfl rfl ?_
  refine gfX5_2 (pc := 10) dX5_swap_10 yc_0 w_1_23 rfl ?_
  refine z_iload_n (pc := 13) dX5_swap_13 rfl rfl ?_
  refine z_V1i (pc := 14) dX5_swap_14 lVX5_90 yc_7 rfl (Nat.le_of_ble_eq_true rfl) (kX0_placeOf 7 z_lm_7 a2 s1 D (by omega)) (fun r2 s2 => ?_)
  refine z_istore (pc := 17) dX5_swap_17 (Nat.le_of_ble_eq_true rfl) (z_so5_4 rfl) ?_
  refine z_iload_n (pc := 19) dX5_swap_19 rfl rfl ?_
  refine z_iload_n (pc := 20) dX5_swap_20 rfl rfl ?_
  refine z_icmp_eq (tgt := 35) (pc := 21) dX5_swap_21 (by decide) (fun _ => ?_) (fun _ => ?_)
  · refine z_bipush_m2 (pc := 35) dX5_swap_35 ?_
    exact z_iret (pc := 37) dX5_swap_37 rfl rfl
  · refine z_iload_n (pc := 24) dX5_swap_24 rfl rfl ?_
    refine z_iconst_m1 (pc := 25) dX5_swap_25 ?_
    refine z_icmp_eq (tgt := 35) (pc := 26) dX5_swap_26 (by decide) (fun _ => ?_) (fun _ => ?_)
    · refine z_bipush_m2 (pc := 35) dX5_swap_35 ?_
      exact z_iret (pc := 37) dX5_swap_37 rfl rfl
    · refine z_iload (pc := 29) dX5_swap_29 rfl ?_
      refine z_iconst_m1 (pc := 31) dX5_swap_31 ?_
      refine z_icmp_ne (tgt := 38) (pc := 32) dX5_swap_32 (by decide) (fun _ => ?_) (fun _ => ?_)
      · refine z_aload_n (pc := 38) dX5_swap_38 rfl rfl ?_
        refine gfX5_2 (pc := 39) dX5_swap_39 yc_0 w_1_23 rfl ?_
        refine z_iload_n (pc := 42) dX5_swap_42 rfl rfl ?_
        refine z_iload (pc := 43) dX5_swap_43 rfl ?_
        refine z_V2u (pc := 45) dX5_swap_45 lVX5_132 yc_7 rfl (Nat.le_of_ble_eq_true rfl) (kX0_exchange 7 z_lm_7 r1 r2 s2 D (by omega)) (fun _ s3 => ?_)
        refine z_aload_n (pc := 48) dX5_swap_48 rfl rfl ?_
        refine gfX5_2 (pc := 49) dX5_swap_49 yc_0 w_1_23 rfl ?_
        refine z_V0i (pc := 52) dX5_swap_52 lVX5_135 yc_7 rfl (Nat.le_of_ble_eq_true rfl) (kX0_weakest 7 z_lm_7 s3 D (by omega)) (fun r4 s4 => ?_)
        exact z_iret (pc := 55) dX5_swap_55 rfl rfl
      · refine z_bipush_m2 (pc := 35) dX5_swap_35 ?_
        exact z_iret (pc := 37) dX5_swap_37 rfl rfl
def fX5_hour   (σ : z_Mem) : Option (Int32 × z_Mem) :=
  if σ.1 7 7 < (999 : Int32) then (z_bd (fX0_passHour 7 σ) (fun _ s1 => z_bd (fX0_weakest 7 s1) (fun r2 s2 => some (r2, s2)))) else (some ((-3 : Int32), σ))
theorem kX5_hour    (σ : z_Mem) (D : Nat) (hD : 6 ≤ D) : z_Call YC mX5_hour D z_i [zR 0] σ (fX5_hour σ) := by
  obtain ⟨D, rfl⟩ : ∃ E, D = E + 1 := ⟨D - 1, by omega⟩
  replace hD : 5 ≤ D := by omega
  refine z_entry (lv := [some (zR 0)]) (by decide) rfl (Nat.le_of_ble_eq_true rfl) rfl ?_
  rw [fX5_hour]
  refine z_aload_n (pc := 0) dX5_hour_0 rfl rfl ?_
  refine gfX5_2 (pc := 1) dX5_hour_1 yc_0 w_1_23 rfl ?_
  refine gfX0_7 (pc := 4) dX5_hour_4 yc_7 w_26_12 rfl ?_
  refine z_sipush_999 (pc := 7) dX5_hour_7 ?_
  refine z_icmp_lt (tgt := 16) (pc := 10) dX5_hour_10 (by decide) (fun _ => ?_) (fun _ => ?_)
  · refine z_aload_n (pc := 16) dX5_hour_16 rfl rfl ?_
    refine gfX5_2 (pc := 17) dX5_hour_17 yc_0 w_1_23 rfl ?_
    refine z_V0u (pc := 20) dX5_hour_20 lVX5_141 yc_7 rfl (Nat.le_of_ble_eq_true rfl) (kX0_passHour 7 z_lm_7 σ D (by omega)) (fun _ s1 => ?_)
    refine z_aload_n (pc := 23) dX5_hour_23 rfl rfl ?_
    refine gfX5_2 (pc := 24) dX5_hour_24 yc_0 w_1_23 rfl ?_
    refine z_V0i (pc := 27) dX5_hour_27 lVX5_135 yc_7 rfl (Nat.le_of_ble_eq_true rfl) (kX0_weakest 7 z_lm_7 s1 D (by omega)) (fun r2 s2 => ?_)
    exact z_iret (pc := 30) dX5_hour_30 rfl rfl
  · refine z_bipush_m3 (pc := 13) dX5_hour_13 ?_
    exact z_iret (pc := 15) dX5_hour_15 rfl rfl
def fX5_wall  (a1 : Int32) (σ : z_Mem) : Option (Int32 × z_Mem) :=
  if a1 = 0 then (z_bd (fX0_weakest 7 σ) (fun r1 s1 => some (r1, s1))) else if a1 = 1 then (z_bd (fX0_gates 7 σ) (fun r2 s2 => some (r2, s2))) else if a1 = 2 then (z_bd (fX0_firstGate 7 σ) (fun r3 s3 => some (r3, s3))) else if a1 = 3 then (some (σ.1 7 6, σ)) else some ((-2 : Int32), σ)
theorem kX5_wall   (a1 : Int32) (σ : z_Mem) (D : Nat) (hD : 6 ≤ D) : z_Call YC mX5_wall D z_i [zR 0, zI a1] σ (fX5_wall a1 σ) := by
  obtain ⟨D, rfl⟩ : ∃ E, D = E + 1 := ⟨D - 1, by omega⟩
  replace hD : 5 ≤ D := by omega
  refine z_entry (lv := [some (zR 0), some (zI a1)]) (by decide) rfl (Nat.le_of_ble_eq_true rfl) rfl ?_
  rw [fX5_wall]
  refine z_iload_n (pc := 0) dX5_wall_0 rfl rfl ?_
  refine z_tswC (n := 0) (off := 31) (tgt := 32) (pc := 1) dX5_wall_1 (by decide) (by decide) (by decide) (by decide) ?_ (fun h0 => ?_)
  · refine z_aload_n (pc := 32) dX5_wall_32 rfl rfl ?_
    refine gfX5_2 (pc := 33) dX5_wall_33 yc_0 w_1_23 rfl ?_
    refine z_V0i (pc := 36) dX5_wall_36 lVX5_135 yc_7 rfl (Nat.le_of_ble_eq_true rfl) (kX0_weakest 7 z_lm_7 σ D (by omega)) (fun r1 s1 => ?_)
    exact z_iret (pc := 39) dX5_wall_39 rfl rfl
  · refine z_tswC (n := 1) (off := 39) (tgt := 40) (pc := 1) dX5_wall_1 (by decide) (by decide) (by decide) (by decide) ?_ (fun h1 => ?_)
    · refine z_aload_n (pc := 40) dX5_wall_40 rfl rfl ?_
      refine gfX5_2 (pc := 41) dX5_wall_41 yc_0 w_1_23 rfl ?_
      refine z_V0i (pc := 44) dX5_wall_44 lVX5_144 yc_7 rfl (Nat.le_of_ble_eq_true rfl) (kX0_gates 7 z_lm_7 σ D (by omega)) (fun r2 s2 => ?_)
      exact z_iret (pc := 47) dX5_wall_47 rfl rfl
    · refine z_tswC (n := 2) (off := 47) (tgt := 48) (pc := 1) dX5_wall_1 (by decide) (by decide) (by decide) (by decide) ?_ (fun h2 => ?_)
      · refine z_aload_n (pc := 48) dX5_wall_48 rfl rfl ?_
        refine gfX5_2 (pc := 49) dX5_wall_49 yc_0 w_1_23 rfl ?_
        refine z_V0i (pc := 52) dX5_wall_52 lVX5_147 yc_7 rfl (Nat.le_of_ble_eq_true rfl) (kX0_firstGate 7 z_lm_7 σ D (by omega)) (fun r3 s3 => ?_)
        exact z_iret (pc := 55) dX5_wall_55 rfl rfl
      · refine z_tswC (n := 3) (off := 55) (tgt := 56) (pc := 1) dX5_wall_1 (by decide) (by decide) (by decide) (by decide) ?_ (fun h3 => ?_)
        · refine z_aload_n (pc := 56) dX5_wall_56 rfl rfl ?_
          refine gfX5_2 (pc := 57) dX5_wall_57 yc_0 w_1_23 rfl ?_
          refine gfX0_6 (pc := 60) dX5_wall_60 yc_7 w_24_20 rfl ?_
          exact z_iret (pc := 63) dX5_wall_63 rfl rfl
        · refine z_tswD (tgt := 64) (pc := 1) dX5_wall_1 (by have t0 := lv_neT h0 (a := 0) rfl; have t1 := lv_neT h1 (a := 1) rfl; have t2 := lv_neT h2 (a := 2) rfl; have t3 := lv_neT h3 (a := 3) rfl; omega) (by decide) ?_
          refine z_bipush_m2 (pc := 64) dX5_wall_64 ?_
          exact z_iret (pc := 66) dX5_wall_66 rfl rfl
def fX5_sneeze_j122  (l3 : Int32) (l5 : Int32) (l6 : Int32) (l7 : Int32) (σ : z_Mem) : Option (Int32 × z_Mem) :=
  if l3 = 0 then (some (l5, σ)) else (if l3 = (1 : Int32) then (some (l6, σ)) else (some (l7, σ)))
theorem kX5_sneeze_j122 (D : Nat)   (hD : 3 ≤ D) (l3 : Int32) (l5 : Int32) (l6 : Int32) (l7 : Int32)  (σ : z_Mem) : z_Go YC mX5_sneeze (D + 1) z_i 122 [none, none, none, some (zI l3), none, some (zI l5), some (zI l6), some (zI l7), none] [] σ (fX5_sneeze_j122 l3 l5 l6 l7 σ) := by
  rw [fX5_sneeze_j122]
  refine z_iload_n (pc := 122) dX5_sneeze_122 rfl rfl ?_
  refine z_if_ne (tgt := 131) (pc := 123) dX5_sneeze_123 (by decide) (fun _ => ?_) (fun _ => ?_)
  · refine z_iload_n (pc := 131) dX5_sneeze_131 rfl rfl ?_
    refine z_iconst_1 (pc := 132) dX5_sneeze_132 ?_
    refine z_icmp_ne (tgt := 141) (pc := 133) dX5_sneeze_133 (by decide) (fun _ => ?_) (fun _ => ?_)
    · refine z_iload (pc := 141) dX5_sneeze_141 rfl ?_
      exact z_iret (pc := 143) dX5_sneeze_143 rfl rfl
    · refine z_iload (pc := 136) dX5_sneeze_136 rfl ?_
      refine z_goto (tgt := 143) (pc := 138) dX5_sneeze_138 (by decide) ?_
      exact z_iret (pc := 143) dX5_sneeze_143 rfl rfl
  · refine z_iload (pc := 126) dX5_sneeze_126 rfl ?_
    refine z_goto (tgt := 143) (pc := 128) dX5_sneeze_128 (by decide) ?_
    exact z_iret (pc := 143) dX5_sneeze_143 rfl rfl
def fX5_sneeze_65  : Nat → Int32 → Int32 → Int32 → Int32 → Int32 → Int32 → z_Mem → Option (Int32 × z_Mem)
  | 0, _, _, _, _, _, _, _ => none
  | q + 1, l3, l4, l5, l6, l7, l8, σ => if (60 : Int32) ≤ l5 then (fX5_sneeze_j122 l3 l5 l6 l7 σ) else (if l8 ≤ 0 then (fX5_sneeze_j122 l3 l5 l6 l7 σ) else (z_bd (fX0_placeBehind 7 l4 σ) (fun r2 s2 => z_bd (fX0_who 7 r2 s2) (fun r3 s3 => z_bd (fX0_handedOn 7 r3 l8 s3) (fun r4 s4 => fX5_sneeze_65  q l3 r2 (l5 + 1) r3 l8 r4 s4)))))
theorem kX5_sneeze_65 (D : Nat)   (hD : 3 ≤ D) : ∀ (q : Nat) (l3 : Int32) (l4 : Int32) (l5 : Int32) (l6 : Int32) (l7 : Int32) (l8 : Int32)  (σ : z_Mem), z_Go YC mX5_sneeze (D + 1) z_i 65 [some (zR 0), none, none, some (zI l3), some (zI l4), some (zI l5), some (zI l6), some (zI l7), some (zI l8)] [] σ (fX5_sneeze_65 q l3 l4 l5 l6 l7 l8 σ) := by
  intro q
  induction q with
  | zero => intros; exact z_none
  | succ q ih =>
    intro l3 l4 l5 l6 l7 l8 σ
    rw [fX5_sneeze_65]
    refine z_iload (pc := 65) dX5_sneeze_65 rfl ?_
    refine z_bipush_60 (pc := 67) dX5_sneeze_67 ?_
    refine z_icmp_ge (tgt := 122) (pc := 69) dX5_sneeze_69 (by decide) (fun _ => ?_) (fun _ => ?_)
    · exact z_weak (lv' := [none, none, none, some (zI l3), none, some (zI l5), some (zI l6), some (zI l7), none]) (z_sub_ok ⟨rfl, rfl, rfl, rfl, trivial⟩) (kX5_sneeze_j122 D  hD l3 l5 l6 l7 σ)
    · refine z_iload (pc := 72) dX5_sneeze_72 rfl ?_
      refine z_if_le (tgt := 122) (pc := 74) dX5_sneeze_74 (by decide) (fun _ => ?_) (fun _ => ?_)
      · exact z_weak (lv' := [none, none, none, some (zI l3), none, some (zI l5), some (zI l6), some (zI l7), none]) (z_sub_ok ⟨rfl, rfl, rfl, rfl, trivial⟩) (kX5_sneeze_j122 D  hD l3 l5 l6 l7 σ)
      · refine z_aload_n (pc := 77) dX5_sneeze_77 rfl rfl ?_
        refine gfX5_2 (pc := 78) dX5_sneeze_78 yc_0 w_1_23 rfl ?_
        refine z_iload (pc := 81) dX5_sneeze_81 rfl ?_
        refine z_V1i (pc := 83) dX5_sneeze_83 lVX5_150 yc_7 rfl (Nat.le_of_ble_eq_true rfl) (kX0_placeBehind 7 z_lm_7 l4 σ D (by omega)) (fun r2 s2 => ?_)
        refine z_istore (pc := 86) dX5_sneeze_86 (Nat.le_of_ble_eq_true rfl) (z_so9_4 rfl) ?_
        refine z_aload_n (pc := 88) dX5_sneeze_88 rfl rfl ?_
        refine gfX5_2 (pc := 89) dX5_sneeze_89 yc_0 w_1_23 rfl ?_
        refine z_iload (pc := 92) dX5_sneeze_92 rfl ?_
        refine z_V1i (pc := 94) dX5_sneeze_94 lVX5_96 yc_7 rfl (Nat.le_of_ble_eq_true rfl) (kX0_who 7 z_lm_7 r2 s2 D (by omega)) (fun r3 s3 => ?_)
        refine z_istore (pc := 97) dX5_sneeze_97 (Nat.le_of_ble_eq_true rfl) (z_so9_6 rfl) ?_
        refine z_iload (pc := 99) dX5_sneeze_99 rfl ?_
        refine z_istore (pc := 101) dX5_sneeze_101 (Nat.le_of_ble_eq_true rfl) (z_so9_7 rfl) ?_
        refine z_aload_n (pc := 103) dX5_sneeze_103 rfl rfl ?_
        refine gfX5_2 (pc := 104) dX5_sneeze_104 yc_0 w_1_23 rfl ?_
        refine z_iload (pc := 107) dX5_sneeze_107 rfl ?_
        refine z_iload (pc := 109) dX5_sneeze_109 rfl ?_
        refine z_V2i (pc := 111) dX5_sneeze_111 lVX5_108 yc_7 rfl (Nat.le_of_ble_eq_true rfl) (kX0_handedOn 7 z_lm_7 r3 l8 s3 D (by omega)) (fun r4 s4 => ?_)
        refine z_istore (pc := 114) dX5_sneeze_114 (Nat.le_of_ble_eq_true rfl) (z_so9_8 rfl) ?_
        refine z_iinc (y := 1) (pc := 116) dX5_sneeze_116 rfl (by decide) (Nat.le_of_ble_eq_true rfl) (z_so9_5 rfl) ?_
        refine z_goto (tgt := 65) (pc := 119) dX5_sneeze_119 (by decide) ?_
        exact ih l3 r2 (l5 + 1) r3 l8 r4 s4
def fX5_sneeze  (a1 : Int32) (a2 : Int32) (a3 : Int32) (σ : z_Mem) : Option (Int32 × z_Mem) :=
  z_bd (fX0_placeOf 7 a1 σ) (fun r1 s1 => if r1 = (-1 : Int32) then (some ((-2 : Int32), s1)) else (if a2 < 0 then (some ((-2 : Int32), s1)) else (if (99 : Int32) < a2 then (some ((-2 : Int32), s1)) else (if a3 < 0 then (some ((-2 : Int32), s1)) else (if a3 ≤ (2 : Int32) then (if (2 : Int32) ≤ s1.1 7 6 then (fX5_sneeze_65 z_FU a3 r1 (0 : Int32) (-1 : Int32) (0 : Int32) a2 s1) else (fX5_sneeze_65 z_FU a3 r1 (0 : Int32) (-1 : Int32) (0 : Int32) (0 : Int32) s1)) else (some ((-2 : Int32), s1)))))))
theorem kX5_sneeze   (a1 : Int32) (a2 : Int32) (a3 : Int32) (σ : z_Mem) (D : Nat) (hD : 4 ≤ D) : z_Call YC mX5_sneeze D z_i [zR 0, zI a1, zI a2, zI a3] σ (fX5_sneeze a1 a2 a3 σ) := by
  obtain ⟨D, rfl⟩ : ∃ E, D = E + 1 := ⟨D - 1, by omega⟩
  replace hD : 3 ≤ D := by omega
  refine z_entry (lv := [some (zR 0), some (zI a1), some (zI a2), some (zI a3), none, none, none, none, none]) (by decide) rfl (Nat.le_of_ble_eq_true rfl) rfl ?_
  rw [fX5_sneeze]
  refine z_aload_n (pc := 0) dX5_sneeze_0 rfl rfl ?_
  refine gfX5_2 (pc := 1) dX5_sneeze_1 yc_0 w_1_23 rfl ?_
  refine z_iload_n (pc := 4) dX5_sneeze_4 rfl rfl ?_
  refine z_V1i (pc := 5) dX5_sneeze_5 lVX5_90 yc_7 rfl (Nat.le_of_ble_eq_true rfl) (kX0_placeOf 7 z_lm_7 a1 σ D (by omega)) (fun r1 s1 => ?_)
  refine z_istore (pc := 8) dX5_sneeze_8 (Nat.le_of_ble_eq_true rfl) (z_so9_4 rfl) ?_
  refine z_iload (pc := 10) dX5_sneeze_10 rfl ?_
  refine z_iconst_m1 (pc := 12) dX5_sneeze_12 ?_
  refine z_icmp_eq (tgt := 35) (pc := 13) dX5_sneeze_13 (by decide) (fun _ => ?_) (fun _ => ?_)
  · refine z_bipush_m2 (pc := 35) dX5_sneeze_35 ?_
    exact z_iret (pc := 37) dX5_sneeze_37 rfl rfl
  · refine z_iload_n (pc := 16) dX5_sneeze_16 rfl rfl ?_
    refine z_if_lt (tgt := 35) (pc := 17) dX5_sneeze_17 (by decide) (fun _ => ?_) (fun _ => ?_)
    · refine z_bipush_m2 (pc := 35) dX5_sneeze_35 ?_
      exact z_iret (pc := 37) dX5_sneeze_37 rfl rfl
    · refine z_iload_n (pc := 20) dX5_sneeze_20 rfl rfl ?_
      refine z_bipush_99 (pc := 21) dX5_sneeze_21 ?_
      refine z_icmp_gt (tgt := 35) (pc := 23) dX5_sneeze_23 (by decide) (fun _ => ?_) (fun _ => ?_)
      · refine z_bipush_m2 (pc := 35) dX5_sneeze_35 ?_
        exact z_iret (pc := 37) dX5_sneeze_37 rfl rfl
      · refine z_iload_n (pc := 26) dX5_sneeze_26 rfl rfl ?_
        refine z_if_lt (tgt := 35) (pc := 27) dX5_sneeze_27 (by decide) (fun _ => ?_) (fun _ => ?_)
        · refine z_bipush_m2 (pc := 35) dX5_sneeze_35 ?_
          exact z_iret (pc := 37) dX5_sneeze_37 rfl rfl
        · refine z_iload_n (pc := 30) dX5_sneeze_30 rfl rfl ?_
          refine z_iconst_2 (pc := 31) dX5_sneeze_31 ?_
          refine z_icmp_le (tgt := 38) (pc := 32) dX5_sneeze_32 (by decide) (fun _ => ?_) (fun _ => ?_)
          · refine z_iconst_0 (pc := 38) dX5_sneeze_38 ?_
            refine z_istore (pc := 39) dX5_sneeze_39 (Nat.le_of_ble_eq_true rfl) (z_so9_5 rfl) ?_
            refine z_iconst_m1 (pc := 41) dX5_sneeze_41 ?_
            refine z_istore (pc := 42) dX5_sneeze_42 (Nat.le_of_ble_eq_true rfl) (z_so9_6 rfl) ?_
            refine z_iconst_0 (pc := 44) dX5_sneeze_44 ?_
            refine z_istore (pc := 45) dX5_sneeze_45 (Nat.le_of_ble_eq_true rfl) (z_so9_7 rfl) ?_
            refine z_aload_n (pc := 47) dX5_sneeze_47 rfl rfl ?_
            refine gfX5_2 (pc := 48) dX5_sneeze_48 yc_0 w_1_23 rfl ?_
            refine gfX0_6 (pc := 51) dX5_sneeze_51 yc_7 w_24_20 rfl ?_
            refine z_iconst_2 (pc := 54) dX5_sneeze_54 ?_
            refine z_icmp_ge (tgt := 62) (pc := 55) dX5_sneeze_55 (by decide) (fun _ => ?_) (fun _ => ?_)
            · refine z_iload_n (pc := 62) dX5_sneeze_62 rfl rfl ?_
              refine z_istore (pc := 63) dX5_sneeze_63 (Nat.le_of_ble_eq_true rfl) (z_so9_8 rfl) ?_
              exact z_weak (lv' := [some (zR 0), none, none, some (zI a3), some (zI r1), some (zI (0 : Int32)), some (zI (-1 : Int32)), some (zI (0 : Int32)), some (zI a2)]) (z_sub_ok ⟨rfl, rfl, rfl, rfl, rfl, rfl, rfl, trivial⟩) (kX5_sneeze_65 D  hD z_FU a3 r1 (0 : Int32) (-1 : Int32) (0 : Int32) a2 s1)
            · refine z_iconst_0 (pc := 58) dX5_sneeze_58 ?_
              refine z_goto (tgt := 63) (pc := 59) dX5_sneeze_59 (by decide) ?_
              refine z_istore (pc := 63) dX5_sneeze_63 (Nat.le_of_ble_eq_true rfl) (z_so9_8 rfl) ?_
              exact z_weak (lv' := [some (zR 0), none, none, some (zI a3), some (zI r1), some (zI (0 : Int32)), some (zI (-1 : Int32)), some (zI (0 : Int32)), some (zI (0 : Int32))]) (z_sub_ok ⟨rfl, rfl, rfl, rfl, rfl, rfl, rfl, trivial⟩) (kX5_sneeze_65 D  hD z_FU a3 r1 (0 : Int32) (-1 : Int32) (0 : Int32) (0 : Int32) s1)
          · refine z_bipush_m2 (pc := 35) dX5_sneeze_35 ?_
            exact z_iret (pc := 37) dX5_sneeze_37 rfl rfl
def fX5_run_71  : Nat → Int32 → Int32 → Int32 → Int32 → Int32 → z_Mem → Option (Int32 × z_Mem)
  | 0, _, _, _, _, _, _ => none
  | q + 1, l1, l2, l3, l4, l5, σ => if l1 ≤ l5 then (if l4 = 0 then (if l2 = 0 then (z_bd (fX0_weakest 12 σ) (fun r3 s3 => some (r3, s3))) else (z_bd (fX0_gates 12 σ) (fun r2 s2 => some (r2, s2)))) else (z_bd (fX0_trait 12 (3 : Int32) l3 σ) (fun r4 s4 => some (r4, s4)))) else (z_bd (fX0_passHour 12 σ) (fun _ s5 => fX5_run_71  q l1 l2 l3 l4 (l5 + 1) s5))
theorem kX5_run_71 (D : Nat)   (hD : 5 ≤ D) : ∀ (q : Nat) (l1 : Int32) (l2 : Int32) (l3 : Int32) (l4 : Int32) (l5 : Int32)  (σ : z_Mem), z_Go YC mX5_run (D + 1) z_i 71 [some (zR 0), some (zI l1), some (zI l2), some (zI l3), some (zI l4), some (zI l5)] [] σ (fX5_run_71 q l1 l2 l3 l4 l5 σ) := by
  intro q
  induction q with
  | zero => intros; exact z_none
  | succ q ih =>
    intro l1 l2 l3 l4 l5 σ
    rw [fX5_run_71]
    refine z_iload (pc := 71) dX5_run_71 rfl ?_
    refine z_iload_n (pc := 73) dX5_run_73 rfl rfl ?_
    refine z_icmp_ge (tgt := 90) (pc := 74) dX5_run_74 (by decide) (fun _ => ?_) (fun _ => ?_)
    · refine z_iload (pc := 90) dX5_run_90 rfl ?_
      refine z_if_eq (tgt := 105) (pc := 92) dX5_run_92 (by decide) (fun _ => ?_) (fun _ => ?_)
      · refine z_iload_n (pc := 105) dX5_run_105 rfl rfl ?_
        refine z_if_ne (tgt := 119) (pc := 106) dX5_run_106 (by decide) (fun _ => ?_) (fun _ => ?_)
        · refine z_aload_n (pc := 119) dX5_run_119 rfl rfl ?_
          refine gfX5_3 (pc := 120) dX5_run_120 yc_0 w_2_0 rfl ?_
          refine z_V0i (pc := 123) dX5_run_123 lVX5_144 yc_12 rfl (Nat.le_of_ble_eq_true rfl) (kX0_gates 12 z_lm_12 σ D (by omega)) (fun r2 s2 => ?_)
          exact z_iret (pc := 126) dX5_run_126 rfl rfl
        · refine z_aload_n (pc := 109) dX5_run_109 rfl rfl ?_
          refine gfX5_3 (pc := 110) dX5_run_110 yc_0 w_2_0 rfl ?_
          refine z_V0i (pc := 113) dX5_run_113 lVX5_135 yc_12 rfl (Nat.le_of_ble_eq_true rfl) (kX0_weakest 12 z_lm_12 σ D (by omega)) (fun r3 s3 => ?_)
          refine z_goto (tgt := 126) (pc := 116) dX5_run_116 (by decide) ?_
          exact z_iret (pc := 126) dX5_run_126 rfl rfl
      · refine z_aload_n (pc := 95) dX5_run_95 rfl rfl ?_
        refine gfX5_3 (pc := 96) dX5_run_96 yc_0 w_2_0 rfl ?_
        refine z_iconst_3 (pc := 99) dX5_run_99 ?_
        refine z_iload_n (pc := 100) dX5_run_100 rfl rfl ?_
        refine z_V2i (pc := 101) dX5_run_101 lVX5_78 yc_12 rfl (Nat.le_of_ble_eq_true rfl) (kX0_trait 12 z_lm_12 (3 : Int32) l3 σ D (by omega)) (fun r4 s4 => ?_)
        exact z_iret (pc := 104) dX5_run_104 rfl rfl
    · refine z_aload_n (pc := 77) dX5_run_77 rfl rfl ?_
      refine gfX5_3 (pc := 78) dX5_run_78 yc_0 w_2_0 rfl ?_
      refine z_V0u (pc := 81) dX5_run_81 lVX5_141 yc_12 rfl (Nat.le_of_ble_eq_true rfl) (kX0_passHour 12 z_lm_12 σ D (by omega)) (fun _ s5 => ?_)
      refine z_iinc (y := 1) (pc := 84) dX5_run_84 rfl (by decide) (Nat.le_of_ble_eq_true rfl) (z_so6_5 rfl) ?_
      refine z_goto (tgt := 71) (pc := 87) dX5_run_87 (by decide) ?_
      exact ih l1 l2 l3 l4 (l5 + 1) s5
def fX5_run  (a1 : Int32) (a2 : Int32) (σ : z_Mem) : Option (Int32 × z_Mem) :=
  if a2 < (10 : Int32) then (if a1 < 0 then (some ((-1000 : Int32), σ)) else (if (40 : Int32) < a1 then (some ((-1000 : Int32), σ)) else (if a2 = 0 then (z_bd (fX0_takeFrom 12 7 σ) (fun _ s1 => fX5_run_71 z_FU a1 a2 (a2 - (10 : Int32)) (0 : Int32) (0 : Int32) s1)) else (if a2 = (1 : Int32) then (z_bd (fX0_takeFrom 12 7 σ) (fun _ s6 => fX5_run_71 z_FU a1 a2 (a2 - (10 : Int32)) (0 : Int32) (0 : Int32) s6)) else (some ((-1000 : Int32), σ)))))) else (z_bd (fX0_has 7 (a2 - (10 : Int32)) σ) (fun r7 s7 => if r7 = 0 then (if a1 < 0 then (some ((-1000 : Int32), s7)) else (if (40 : Int32) < a1 then (some ((-1000 : Int32), s7)) else (if a2 = 0 then (z_bd (fX0_takeFrom 12 7 s7) (fun _ s8 => fX5_run_71 z_FU a1 a2 (a2 - (10 : Int32)) (0 : Int32) (0 : Int32) s8)) else (if a2 = (1 : Int32) then (z_bd (fX0_takeFrom 12 7 s7) (fun _ s9 => fX5_run_71 z_FU a1 a2 (a2 - (10 : Int32)) (0 : Int32) (0 : Int32) s9)) else (some ((-1000 : Int32), s7)))))) else (if a1 < 0 then (some ((-1000 : Int32), s7)) else (if (40 : Int32) < a1 then (some ((-1000 : Int32), s7)) else (if a2 = 0 then (z_bd (fX0_takeFrom 12 7 s7) (fun _ s10 => fX5_run_71 z_FU a1 a2 (a2 - (10 : Int32)) (1 : Int32) (0 : Int32) s10)) else (if a2 = (1 : Int32) then (z_bd (fX0_takeFrom 12 7 s7) (fun _ s11 => fX5_run_71 z_FU a1 a2 (a2 - (10 : Int32)) (1 : Int32) (0 : Int32) s11)) else (z_bd (fX0_takeFrom 12 7 s7) (fun _ s12 => fX5_run_71 z_FU a1 a2 (a2 - (10 : Int32)) (1 : Int32) (0 : Int32) s12))))))))
theorem kX5_run   (a1 : Int32) (a2 : Int32) (σ : z_Mem) (D : Nat) (hD : 6 ≤ D) : z_Call YC mX5_run D z_i [zR 0, zI a1, zI a2] σ (fX5_run a1 a2 σ) := by
  obtain ⟨D, rfl⟩ : ∃ E, D = E + 1 := ⟨D - 1, by omega⟩
  replace hD : 5 ≤ D := by omega
  refine z_entry (lv := [some (zR 0), some (zI a1), some (zI a2), none, none, none]) (by decide) rfl (Nat.le_of_ble_eq_true rfl) rfl ?_
  rw [fX5_run]
  refine z_iload_n (pc := 0) dX5_run_0 rfl rfl ?_
  refine z_bipush_10 (pc := 1) dX5_run_1 ?_
  refine z_isub (pc := 3) dX5_run_3 ?_
  refine z_istore_n (pc := 4) dX5_run_4 rfl (Nat.le_of_ble_eq_true rfl) (z_so6_3 rfl) ?_
  refine z_iload_n (pc := 5) dX5_run_5 rfl rfl ?_
  refine z_bipush_10 (pc := 6) dX5_run_6 ?_
  refine z_icmp_lt (tgt := 26) (pc := 8) dX5_run_8 (by decide) (fun _ => ?_) (fun _ => ?_)
  · refine z_iconst_0 (pc := 26) dX5_run_26 ?_
    refine z_istore (pc := 27) dX5_run_27 (Nat.le_of_ble_eq_true rfl) (z_so6_4 rfl) ?_
    refine z_iload_n (pc := 29) dX5_run_29 rfl rfl ?_
    refine z_if_lt (tgt := 53) (pc := 30) dX5_run_30 (by decide) (fun _ => ?_) (fun _ => ?_)
    · refine z_sipush_m1000 (pc := 53) dX5_run_53 ?_
      exact z_iret (pc := 56) dX5_run_56 rfl rfl
    · refine z_iload_n (pc := 33) dX5_run_33 rfl rfl ?_
      refine z_bipush_40 (pc := 34) dX5_run_34 ?_
      refine z_icmp_gt (tgt := 53) (pc := 36) dX5_run_36 (by decide) (fun _ => ?_) (fun _ => ?_)
      · refine z_sipush_m1000 (pc := 53) dX5_run_53 ?_
        exact z_iret (pc := 56) dX5_run_56 rfl rfl
      · refine z_iload_n (pc := 39) dX5_run_39 rfl rfl ?_
        refine z_if_eq (tgt := 57) (pc := 40) dX5_run_40 (by decide) (fun _ => ?_) (fun _ => ?_)
        · refine z_aload_n (pc := 57) dX5_run_57 rfl rfl ?_
          refine gfX5_3 (pc := 58) dX5_run_58 yc_0 w_2_0 rfl ?_
          refine z_aload_n (pc := 61) dX5_run_61 rfl rfl ?_
          refine gfX5_2 (pc := 62) dX5_run_62 yc_0 w_1_23 rfl ?_
          refine z_V1u (pc := 65) dX5_run_65 lVX5_153 yc_12 rfl (Nat.le_of_ble_eq_true rfl) (kX0_takeFrom 12 7 z_lm_12 z_lm_7 σ D (by omega)) (fun _ s1 => ?_)
          refine z_iconst_0 (pc := 68) dX5_run_68 ?_
          refine z_istore (pc := 69) dX5_run_69 (Nat.le_of_ble_eq_true rfl) (z_so6_5 rfl) ?_
          exact kX5_run_71 D  hD z_FU a1 a2 (a2 - (10 : Int32)) (0 : Int32) (0 : Int32) s1
        · refine z_iload_n (pc := 43) dX5_run_43 rfl rfl ?_
          refine z_iconst_1 (pc := 44) dX5_run_44 ?_
          refine z_icmp_eq (tgt := 57) (pc := 45) dX5_run_45 (by decide) (fun _ => ?_) (fun _ => ?_)
          · refine z_aload_n (pc := 57) dX5_run_57 rfl rfl ?_
            refine gfX5_3 (pc := 58) dX5_run_58 yc_0 w_2_0 rfl ?_
            refine z_aload_n (pc := 61) dX5_run_61 rfl rfl ?_
            refine gfX5_2 (pc := 62) dX5_run_62 yc_0 w_1_23 rfl ?_
            refine z_V1u (pc := 65) dX5_run_65 lVX5_153 yc_12 rfl (Nat.le_of_ble_eq_true rfl) (kX0_takeFrom 12 7 z_lm_12 z_lm_7 σ D (by omega)) (fun _ s6 => ?_)
            refine z_iconst_0 (pc := 68) dX5_run_68 ?_
            refine z_istore (pc := 69) dX5_run_69 (Nat.le_of_ble_eq_true rfl) (z_so6_5 rfl) ?_
            exact kX5_run_71 D  hD z_FU a1 a2 (a2 - (10 : Int32)) (0 : Int32) (0 : Int32) s6
          · refine z_iload (pc := 48) dX5_run_48 rfl ?_
            refine z_if_ne_N (tgt := 57) (pc := 50) dX5_run_50 (by decide) (by decide) ?_
            refine z_sipush_m1000 (pc := 53) dX5_run_53 ?_
            exact z_iret (pc := 56) dX5_run_56 rfl rfl
  · refine z_aload_n (pc := 11) dX5_run_11 rfl rfl ?_
    refine gfX5_2 (pc := 12) dX5_run_12 yc_0 w_1_23 rfl ?_
    refine z_iload_n (pc := 15) dX5_run_15 rfl rfl ?_
    refine z_V1i (pc := 16) dX5_run_16 lVX5_75 yc_7 rfl (Nat.le_of_ble_eq_true rfl) (kX0_has 7 z_lm_7 (a2 - (10 : Int32)) σ D (by omega)) (fun r7 s7 => ?_)
    refine z_if_eq (tgt := 26) (pc := 19) dX5_run_19 (by decide) (fun _ => ?_) (fun _ => ?_)
    · refine z_iconst_0 (pc := 26) dX5_run_26 ?_
      refine z_istore (pc := 27) dX5_run_27 (Nat.le_of_ble_eq_true rfl) (z_so6_4 rfl) ?_
      refine z_iload_n (pc := 29) dX5_run_29 rfl rfl ?_
      refine z_if_lt (tgt := 53) (pc := 30) dX5_run_30 (by decide) (fun _ => ?_) (fun _ => ?_)
      · refine z_sipush_m1000 (pc := 53) dX5_run_53 ?_
        exact z_iret (pc := 56) dX5_run_56 rfl rfl
      · refine z_iload_n (pc := 33) dX5_run_33 rfl rfl ?_
        refine z_bipush_40 (pc := 34) dX5_run_34 ?_
        refine z_icmp_gt (tgt := 53) (pc := 36) dX5_run_36 (by decide) (fun _ => ?_) (fun _ => ?_)
        · refine z_sipush_m1000 (pc := 53) dX5_run_53 ?_
          exact z_iret (pc := 56) dX5_run_56 rfl rfl
        · refine z_iload_n (pc := 39) dX5_run_39 rfl rfl ?_
          refine z_if_eq (tgt := 57) (pc := 40) dX5_run_40 (by decide) (fun _ => ?_) (fun _ => ?_)
          · refine z_aload_n (pc := 57) dX5_run_57 rfl rfl ?_
            refine gfX5_3 (pc := 58) dX5_run_58 yc_0 w_2_0 rfl ?_
            refine z_aload_n (pc := 61) dX5_run_61 rfl rfl ?_
            refine gfX5_2 (pc := 62) dX5_run_62 yc_0 w_1_23 rfl ?_
            refine z_V1u (pc := 65) dX5_run_65 lVX5_153 yc_12 rfl (Nat.le_of_ble_eq_true rfl) (kX0_takeFrom 12 7 z_lm_12 z_lm_7 s7 D (by omega)) (fun _ s8 => ?_)
            refine z_iconst_0 (pc := 68) dX5_run_68 ?_
            refine z_istore (pc := 69) dX5_run_69 (Nat.le_of_ble_eq_true rfl) (z_so6_5 rfl) ?_
            exact kX5_run_71 D  hD z_FU a1 a2 (a2 - (10 : Int32)) (0 : Int32) (0 : Int32) s8
          · refine z_iload_n (pc := 43) dX5_run_43 rfl rfl ?_
            refine z_iconst_1 (pc := 44) dX5_run_44 ?_
            refine z_icmp_eq (tgt := 57) (pc := 45) dX5_run_45 (by decide) (fun _ => ?_) (fun _ => ?_)
            · refine z_aload_n (pc := 57) dX5_run_57 rfl rfl ?_
              refine gfX5_3 (pc := 58) dX5_run_58 yc_0 w_2_0 rfl ?_
              refine z_aload_n (pc := 61) dX5_run_61 rfl rfl ?_
              refine gfX5_2 (pc := 62) dX5_run_62 yc_0 w_1_23 rfl ?_
              refine z_V1u (pc := 65) dX5_run_65 lVX5_153 yc_12 rfl (Nat.le_of_ble_eq_true rfl) (kX0_takeFrom 12 7 z_lm_12 z_lm_7 s7 D (by omega)) (fun _ s9 => ?_)
              refine z_iconst_0 (pc := 68) dX5_run_68 ?_
              refine z_istore (pc := 69) dX5_run_69 (Nat.le_of_ble_eq_true rfl) (z_so6_5 rfl) ?_
              exact kX5_run_71 D  hD z_FU a1 a2 (a2 - (10 : Int32)) (0 : Int32) (0 : Int32) s9
            · refine z_iload (pc := 48) dX5_run_48 rfl ?_
              refine z_if_ne_N (tgt := 57) (pc := 50) dX5_run_50 (by decide) (by decide) ?_
              refine z_sipush_m1000 (pc := 53) dX5_run_53 ?_
              exact z_iret (pc := 56) dX5_run_56 rfl rfl
    · refine z_iconst_1 (pc := 22) dX5_run_22 ?_
      refine z_goto (tgt := 27) (pc := 23) dX5_run_23 (by decide) ?_
      refine z_istore (pc := 27) dX5_run_27 (Nat.le_of_ble_eq_true rfl) (z_so6_4 rfl) ?_
      refine z_iload_n (pc := 29) dX5_run_29 rfl rfl ?_
      refine z_if_lt (tgt := 53) (pc := 30) dX5_run_30 (by decide) (fun _ => ?_) (fun _ => ?_)
      · refine z_sipush_m1000 (pc := 53) dX5_run_53 ?_
        exact z_iret (pc := 56) dX5_run_56 rfl rfl
      · refine z_iload_n (pc := 33) dX5_run_33 rfl rfl ?_
        refine z_bipush_40 (pc := 34) dX5_run_34 ?_
        refine z_icmp_gt (tgt := 53) (pc := 36) dX5_run_36 (by decide) (fun _ => ?_) (fun _ => ?_)
        · refine z_sipush_m1000 (pc := 53) dX5_run_53 ?_
          exact z_iret (pc := 56) dX5_run_56 rfl rfl
        · refine z_iload_n (pc := 39) dX5_run_39 rfl rfl ?_
          refine z_if_eq (tgt := 57) (pc := 40) dX5_run_40 (by decide) (fun _ => ?_) (fun _ => ?_)
          · refine z_aload_n (pc := 57) dX5_run_57 rfl rfl ?_
            refine gfX5_3 (pc := 58) dX5_run_58 yc_0 w_2_0 rfl ?_
            refine z_aload_n (pc := 61) dX5_run_61 rfl rfl ?_
            refine gfX5_2 (pc := 62) dX5_run_62 yc_0 w_1_23 rfl ?_
            refine z_V1u (pc := 65) dX5_run_65 lVX5_153 yc_12 rfl (Nat.le_of_ble_eq_true rfl) (kX0_takeFrom 12 7 z_lm_12 z_lm_7 s7 D (by omega)) (fun _ s10 => ?_)
            refine z_iconst_0 (pc := 68) dX5_run_68 ?_
            refine z_istore (pc := 69) dX5_run_69 (Nat.le_of_ble_eq_true rfl) (z_so6_5 rfl) ?_
            exact kX5_run_71 D  hD z_FU a1 a2 (a2 - (10 : Int32)) (1 : Int32) (0 : Int32) s10
          · refine z_iload_n (pc := 43) dX5_run_43 rfl rfl ?_
            refine z_iconst_1 (pc := 44) dX5_run_44 ?_
            refine z_icmp_eq (tgt := 57) (pc := 45) dX5_run_45 (by decide) (fun _ => ?_) (fun _ => ?_)
            · refine z_aload_n (pc := 57) dX5_run_57 rfl rfl ?_
              refine gfX5_3 (pc := 58) dX5_run_58 yc_0 w_2_0 rfl ?_
              refine z_aload_n (pc := 61) dX5_run_61 rfl rfl ?_
              refine gfX5_2 (pc := 62) dX5_run_62 yc_0 w_1_23 rfl ?_
              refine z_V1u (pc := 65) dX5_run_65 lVX5_153 yc_12 rfl (Nat.le_of_ble_eq_true rfl) (kX0_takeFrom 12 7 z_lm_12 z_lm_7 s7 D (by omega)) (fun _ s11 => ?_)
              refine z_iconst_0 (pc := 68) dX5_run_68 ?_
              refine z_istore (pc := 69) dX5_run_69 (Nat.le_of_ble_eq_true rfl) (z_so6_5 rfl) ?_
              exact kX5_run_71 D  hD z_FU a1 a2 (a2 - (10 : Int32)) (1 : Int32) (0 : Int32) s11
            · refine z_iload (pc := 48) dX5_run_48 rfl ?_
              refine z_if_ne_T (tgt := 57) (pc := 50) dX5_run_50 (by decide) (by decide) ?_
              refine z_aload_n (pc := 57) dX5_run_57 rfl rfl ?_
              refine gfX5_3 (pc := 58) dX5_run_58 yc_0 w_2_0 rfl ?_
              refine z_aload_n (pc := 61) dX5_run_61 rfl rfl ?_
              refine gfX5_2 (pc := 62) dX5_run_62 yc_0 w_1_23 rfl ?_
              refine z_V1u (pc := 65) dX5_run_65 lVX5_153 yc_12 rfl (Nat.le_of_ble_eq_true rfl) (kX0_takeFrom 12 7 z_lm_12 z_lm_7 s7 D (by omega)) (fun _ s12 => ?_)
              refine z_iconst_0 (pc := 68) dX5_run_68 ?_
              refine z_istore (pc := 69) dX5_run_69 (Nat.le_of_ble_eq_true rfl) (z_so6_5 rfl) ?_
              exact kX5_run_71 D  hD z_FU a1 a2 (a2 - (10 : Int32)) (1 : Int32) (0 : Int32) s12
def fX5_opens_13  : Nat → Int32 → z_Mem → Option (Int32 × z_Mem)
  | 0, _, _ => none
  | q + 1, l1, σ => if (60 : Int32) < l1 then (some ((-1 : Int32), σ)) else (z_bd (fX0_firstGate 12 σ) (fun r2 s2 => if r2 = (-1 : Int32) then (z_bd (fX0_passHour 12 s2) (fun _ s3 => fX5_opens_13  q (l1 + 1) s3)) else (some (l1, s2))))
theorem kX5_opens_13 (D : Nat)   (hD : 5 ≤ D) : ∀ (q : Nat) (l1 : Int32)  (σ : z_Mem), z_Go YC mX5_opens (D + 1) z_i 13 [some (zR 0), some (zI l1)] [] σ (fX5_opens_13 q l1 σ) := by
  intro q
  induction q with
  | zero => intros; exact z_none
  | succ q ih =>
    intro l1 σ
    rw [fX5_opens_13]
    refine z_iload_n (pc := 13) dX5_opens_13 rfl rfl ?_
    refine z_bipush_60 (pc := 14) dX5_opens_14 ?_
    refine z_icmp_gt (tgt := 45) (pc := 16) dX5_opens_16 (by decide) (fun _ => ?_) (fun _ => ?_)
    · refine z_iconst_m1 (pc := 45) dX5_opens_45 ?_
      exact z_iret (pc := 46) dX5_opens_46 rfl rfl
    · refine z_aload_n (pc := 19) dX5_opens_19 rfl rfl ?_
      refine gfX5_3 (pc := 20) dX5_opens_20 yc_0 w_2_0 rfl ?_
      refine z_V0i (pc := 23) dX5_opens_23 lVX5_147 yc_12 rfl (Nat.le_of_ble_eq_true rfl) (kX0_firstGate 12 z_lm_12 σ D (by omega)) (fun r2 s2 => ?_)
      refine z_iconst_m1 (pc := 26) dX5_opens_26 ?_
      refine z_icmp_eq (tgt := 32) (pc := 27) dX5_opens_27 (by decide) (fun _ => ?_) (fun _ => ?_)
      · refine z_aload_n (pc := 32) dX5_opens_32 rfl rfl ?_
        refine gfX5_3 (pc := 33) dX5_opens_33 yc_0 w_2_0 rfl ?_
        refine z_V0u (pc := 36) dX5_opens_36 lVX5_141 yc_12 rfl (Nat.le_of_ble_eq_true rfl) (kX0_passHour 12 z_lm_12 s2 D (by omega)) (fun _ s3 => ?_)
        refine z_iinc (y := 1) (pc := 39) dX5_opens_39 rfl (by decide) (Nat.le_of_ble_eq_true rfl) (z_so2_1 rfl) ?_
        refine z_goto (tgt := 13) (pc := 42) dX5_opens_42 (by decide) ?_
        exact ih (l1 + 1) s3
      · refine z_iload_n (pc := 30) dX5_opens_30 rfl rfl ?_
        exact z_iret (pc := 31) dX5_opens_31 rfl rfl
def fX5_opens   (σ : z_Mem) : Option (Int32 × z_Mem) :=
  z_bd (fX0_takeFrom 12 7 σ) (fun _ s1 => fX5_opens_13 z_FU (0 : Int32) s1)
theorem kX5_opens    (σ : z_Mem) (D : Nat) (hD : 6 ≤ D) : z_Call YC mX5_opens D z_i [zR 0] σ (fX5_opens σ) := by
  obtain ⟨D, rfl⟩ : ∃ E, D = E + 1 := ⟨D - 1, by omega⟩
  replace hD : 5 ≤ D := by omega
  refine z_entry (lv := [some (zR 0), none]) (by decide) rfl (Nat.le_of_ble_eq_true rfl) rfl ?_
  rw [fX5_opens]
  refine z_aload_n (pc := 0) dX5_opens_0 rfl rfl ?_
  refine gfX5_3 (pc := 1) dX5_opens_1 yc_0 w_2_0 rfl ?_
  refine z_aload_n (pc := 4) dX5_opens_4 rfl rfl ?_
  refine gfX5_2 (pc := 5) dX5_opens_5 yc_0 w_1_23 rfl ?_
  refine z_V1u (pc := 8) dX5_opens_8 lVX5_153 yc_12 rfl (Nat.le_of_ble_eq_true rfl) (kX0_takeFrom 12 7 z_lm_12 z_lm_7 σ D (by omega)) (fun _ s1 => ?_)
  refine z_iconst_0 (pc := 11) dX5_opens_11 ?_
  refine z_istore_n (pc := 12) dX5_opens_12 rfl (Nat.le_of_ble_eq_true rfl) (z_so2_1 rfl) ?_
  exact kX5_opens_13 D  hD z_FU (0 : Int32) s1
