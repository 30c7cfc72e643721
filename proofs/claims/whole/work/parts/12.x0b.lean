def fX0_asBrother (c : Nat) (a1 : Int32) (a2 : Int32) (σ : z_Mem) : Option (Int32 × z_Mem) :=
  z_gd (z_in a2 6) (z_bd (fX5_isUnder (σ.1 (c + 1) (z_x a2)) (1 : Int32) σ) (fun r1 s1 => if r1 = 0 then (some (a1, s1)) else (some ((2 : Int32) * a1, s1))))
theorem kX0_asBrother (c : Nat) (hc : z_lm c) (a1 : Int32) (a2 : Int32) (σ : z_Mem) (D : Nat) (hD : 2 ≤ D) : z_Call YC mX0_asBrother D z_i [zR c, zI a1, zI a2] σ (fX0_asBrother c a1 a2 σ) := by
  obtain ⟨D, rfl⟩ : ∃ E, D = E + 1 := ⟨D - 1, by omega⟩
  replace hD : 1 ≤ D := by omega
  refine z_entry (lv := [some (zR c), some (zI a1), some (zI a2)]) (by decide) rfl (Nat.le_of_ble_eq_true rfl) rfl ?_
  rw [fX0_asBrother]
  refine z_aload_n (pc := 0) dX0_asBrother_0 rfl rfl ?_
  refine gfX0_1 (pc := 1) dX0_asBrother_1 hc.1 w_3_3 rfl ?_
  refine z_iload_n (pc := 4) dX0_asBrother_4 rfl rfl ?_
  refine z_iald (pc := 5) dX0_asBrother_5 hc.2.1 ?_
  refine z_iconst_1 (pc := 6) dX0_asBrother_6 ?_
  refine z_N2i (pc := 7) dX0_asBrother_7 lNX0_107 (Nat.le_of_ble_eq_true rfl) (kX5_isUnder (σ.1 (c + 1) (z_x a2)) (1 : Int32) σ D (by omega)) (fun r1 s1 => ?_)
  refine z_if_eq (tgt := 19) (pc := 10) dX0_asBrother_10 (by decide) (fun _ => ?_) (fun _ => ?_)
  · refine z_iload_n (pc := 19) dX0_asBrother_19 rfl rfl ?_
    exact z_iret (pc := 20) dX0_asBrother_20 rfl rfl
  · refine z_iconst_2 (pc := 13) dX0_asBrother_13 ?_
    refine z_iload_n (pc := 14) dX0_asBrother_14 rfl rfl ?_
    refine z_imul (pc := 15) dX0_asBrother_15 ?_
    refine z_goto (tgt := 20) (pc := 16) dX0_asBrother_16 (by decide) ?_
    exact z_iret (pc := 20) dX0_asBrother_20 rfl rfl
def fX0_gripOf (c : Nat) (a1 : Int32) (a2 : Int32) (σ : z_Mem) : Option (Int32 × z_Mem) :=
  z_bd (fX0_has c a1 σ) (fun r1 s1 => if r1 = 0 then (some ((0 : Int32), s1)) else (z_bd (fX0_has c a2 s1) (fun r2 s2 => if r2 = 0 then (some ((0 : Int32), s2)) else (z_bd (fX4_value c (0 : Int32) a1 a2 s2) (fun r3 s3 => z_bd (fX5_bounded r3 s3) (fun r4 s4 => z_gd (z_in a1 6) (z_gd (z_in a1 6) (if s4.1 (c + 1) (z_x a1) = 1 then (z_bd (fX0_asBrother c r4 a2 s4) (fun r5 s5 => z_bd (fX5_bounded r5 s5) (fun r6 s6 => some (r6, s6)))) else if s4.1 (c + 1) (z_x a1) = 2 then (z_bd (fX5_bounded (r4 - (s4.1 (c + 2) (z_x a1))) s4) (fun r7 s7 => some (r7, s7))) else if s4.1 (c + 1) (z_x a1) = 3 then (z_gd (z_in a1 6) (z_gd (z_in a2 6) (if s4.1 (c + 2) (z_x a1) = s4.1 (c + 2) (z_x a2) then (some ((99 : Int32), s4)) else (z_bd (fX0_asBrother c r4 a2 s4) (fun r8 s8 => z_bd (fX5_bounded r8 s8) (fun r9 s9 => some (r9, s9))))))) else if s4.1 (c + 1) (z_x a1) = 4 then (z_bd (fX5_bounded ((r4 - (s4.1 (c + 2) (z_x a1))) + (z_mn (s4.1 c 7) (20 : Int32))) s4) (fun r10 s10 => some (r10, s10))) else if s4.1 (c + 1) (z_x a1) = 5 then (z_gd (z_in a1 6) (some (s4.1 (c + 3) (z_x a1), s4))) else some (r4, s4)))))))))
theorem kX0_gripOf (c : Nat) (hc : z_lm c) (a1 : Int32) (a2 : Int32) (σ : z_Mem) (D : Nat) (hD : 3 ≤ D) : z_Call YC mX0_gripOf D z_i [zR c, zI a1, zI a2] σ (fX0_gripOf c a1 a2 σ) := by
  obtain ⟨D, rfl⟩ : ∃ E, D = E + 1 := ⟨D - 1, by omega⟩
  replace hD : 2 ≤ D := by omega
  refine z_entry (lv := [some (zR c), some (zI a1), some (zI a2), none, none]) (by decide) rfl (Nat.le_of_ble_eq_true rfl) rfl ?_
  rw [fX0_gripOf]
  refine z_aload_n (pc := 0) dX0_gripOf_0 rfl rfl ?_
  refine z_iload_n (pc := 1) dX0_gripOf_1 rfl rfl ?_
  refine z_V1i (pc := 2) dX0_gripOf_2 lVX0_54 hc.1 rfl (Nat.le_of_ble_eq_true rfl) (kX0_has c hc a1 σ D (by omega)) (fun r1 s1 => ?_)
  refine z_if_eq (tgt := 16) (pc := 5) dX0_gripOf_5 (by decide) (fun _ => ?_) (fun _ => ?_)
  · refine z_iconst_0 (pc := 16) dX0_gripOf_16 ?_
    exact z_iret (pc := 17) dX0_gripOf_17 rfl rfl
  · refine z_aload_n (pc := 8) dX0_gripOf_8 rfl rfl ?_
    refine z_iload_n (pc := 9) dX0_gripOf_9 rfl rfl ?_
    refine z_V1i (pc := 10) dX0_gripOf_10 lVX0_54 hc.1 rfl (Nat.le_of_ble_eq_true rfl) (kX0_has c hc a2 s1 D (by omega)) (fun r2 s2 => ?_)
    refine z_if_ne (tgt := 18) (pc := 13) dX0_gripOf_13 (by decide) (fun _ => ?_) (fun _ => ?_)
    · refine z_aload_n (pc := 18) dX0_gripOf_18 rfl rfl ?_
      refine gfX0_0 (pc := 19) dX0_gripOf_19 hc.1 w_3_7 rfl ?_
      refine z_iconst_0 (pc := 22) dX0_gripOf_22 ?_
      refine z_aload_n (pc := 23) dX0_gripOf_23 rfl rfl ?_
      refine z_iload_n (pc := 24) dX0_gripOf_24 rfl rfl ?_
      refine z_iload_n (pc := 25) dX0_gripOf_25 rfl rfl ?_
      refine z_V4i (pc := 26) dX0_gripOf_26 lVX0_95 yc_1 rfl (Nat.le_of_ble_eq_true rfl) (kX4_value c hc (0 : Int32) a1 a2 s2 D (by omega)) (fun r3 s3 => ?_)
      refine z_N1i (pc := 29) dX0_gripOf_29 lNX0_101 (Nat.le_of_ble_eq_true rfl) (kX5_bounded r3 s3 D (by omega)) (fun r4 s4 => ?_)
      refine z_istore_n (pc := 32) dX0_gripOf_32 rfl (Nat.le_of_ble_eq_true rfl) (z_so5_3 rfl) ?_
      refine z_iload_n (pc := 33) dX0_gripOf_33 rfl rfl ?_
      refine z_aload_n (pc := 34) dX0_gripOf_34 rfl rfl ?_
      refine gfX0_2 (pc := 35) dX0_gripOf_35 hc.1 w_3_4 rfl ?_
      refine z_iload_n (pc := 38) dX0_gripOf_38 rfl rfl ?_
      refine z_iald (pc := 39) dX0_gripOf_39 hc.2.2.1 ?_
      refine z_isub (pc := 40) dX0_gripOf_40 ?_
      refine z_istore (pc := 41) dX0_gripOf_41 (Nat.le_of_ble_eq_true rfl) (z_so5_4 rfl) ?_
      refine z_aload_n (pc := 43) dX0_gripOf_43 rfl rfl ?_
      refine gfX0_1 (pc := 44) dX0_gripOf_44 hc.1 w_3_3 rfl ?_
      refine z_iload_n (pc := 47) dX0_gripOf_47 rfl rfl ?_
      refine z_iald (pc := 48) dX0_gripOf_48 hc.2.1 ?_
      refine z_tswC (n := 1) (off := 35) (tgt := 84) (pc := 49) dX0_gripOf_49 (by decide) (by decide) (by decide) (by decide) ?_ (fun h0 => ?_)
      · refine z_aload_n (pc := 84) dX0_gripOf_84 rfl rfl ?_
        refine z_iload_n (pc := 85) dX0_gripOf_85 rfl rfl ?_
        refine z_iload_n (pc := 86) dX0_gripOf_86 rfl rfl ?_
        refine z_V2i (pc := 87) dX0_gripOf_87 lVX0_104 hc.1 rfl (Nat.le_of_ble_eq_true rfl) (kX0_asBrother c hc r4 a2 s4 D (by omega)) (fun r5 s5 => ?_)
        refine z_N1i (pc := 90) dX0_gripOf_90 lNX0_101 (Nat.le_of_ble_eq_true rfl) (kX5_bounded r5 s5 D (by omega)) (fun r6 s6 => ?_)
        exact z_iret (pc := 93) dX0_gripOf_93 rfl rfl
      · refine z_tswC (n := 2) (off := 45) (tgt := 94) (pc := 49) dX0_gripOf_49 (by decide) (by decide) (by decide) (by decide) ?_ (fun h1 => ?_)
        · refine z_iload (pc := 94) dX0_gripOf_94 rfl ?_
          refine z_N1i (pc := 96) dX0_gripOf_96 lNX0_101 (Nat.le_of_ble_eq_true rfl) (kX5_bounded (r4 - (s4.1 (c + 2) (z_x a1))) s4 D (by omega)) (fun r7 s7 => ?_)
          exact z_iret (pc := 99) dX0_gripOf_99 rfl rfl
        · refine z_tswC (n := 3) (off := 51) (tgt := 100) (pc := 49) dX0_gripOf_49 (by decide) (by decide) (by decide) (by decide) ?_ (fun h2 => ?_)
          · refine z_aload_n (pc := 100) dX0_gripOf_100 rfl rfl ?_
            refine gfX0_2 (pc := 101) dX0_gripOf_101 hc.1 w_3_4 rfl ?_
            refine z_iload_n (pc := 104) dX0_gripOf_104 rfl rfl ?_
            refine z_iald (pc := 105) dX0_gripOf_105 hc.2.2.1 ?_
            refine z_aload_n (pc := 106) dX0_gripOf_106 rfl rfl ?_
            refine gfX0_2 (pc := 107) dX0_gripOf_107 hc.1 w_3_4 rfl ?_
            refine z_iload_n (pc := 110) dX0_gripOf_110 rfl rfl ?_
            refine z_iald (pc := 111) dX0_gripOf_111 hc.2.2.1 ?_
            refine z_icmp_ne (tgt := 120) (pc := 112) dX0_gripOf_112 (by decide) (fun _ => ?_) (fun _ => ?_)
            · refine z_aload_n (pc := 120) dX0_gripOf_120 rfl rfl ?_
              refine z_iload_n (pc := 121) dX0_gripOf_121 rfl rfl ?_
              refine z_iload_n (pc := 122) dX0_gripOf_122 rfl rfl ?_
              refine z_V2i (pc := 123) dX0_gripOf_123 lVX0_104 hc.1 rfl (Nat.le_of_ble_eq_true rfl) (kX0_asBrother c hc r4 a2 s4 D (by omega)) (fun r8 s8 => ?_)
              refine z_N1i (pc := 126) dX0_gripOf_126 lNX0_101 (Nat.le_of_ble_eq_true rfl) (kX5_bounded r8 s8 D (by omega)) (fun r9 s9 => ?_)
              exact z_iret (pc := 129) dX0_gripOf_129 rfl rfl
            · refine z_bipush_99 (pc := 115) dX0_gripOf_115 ?_
              refine z_goto (tgt := 129) (pc := 117) dX0_gripOf_117 (by decide) ?_
              exact z_iret (pc := 129) dX0_gripOf_129 rfl rfl
          · refine z_tswC (n := 4) (off := 81) (tgt := 130) (pc := 49) dX0_gripOf_49 (by decide) (by decide) (by decide) (by decide) ?_ (fun h3 => ?_)
            · refine z_iload (pc := 130) dX0_gripOf_130 rfl ?_
              refine z_aload_n (pc := 132) dX0_gripOf_132 rfl rfl ?_
              refine gfX0_7 (pc := 133) dX0_gripOf_133 hc.1 w_11_20 rfl ?_
              refine z_bipush_20 (pc := 136) dX0_gripOf_136 ?_
              refine z_min (pc := 138) rfl dX0_gripOf_138 w_20_20 w_19_20 w_19_21 w_19_22 (fun _ => Nat.le_of_ble_eq_true rfl) ?_
              refine z_iadd (pc := 141) dX0_gripOf_141 ?_
              refine z_N1i (pc := 142) dX0_gripOf_142 lNX0_101 (Nat.le_of_ble_eq_true rfl) (kX5_bounded ((r4 - (s4.1 (c + 2) (z_x a1))) + (z_mn (s4.1 c 7) (20 : Int32))) s4 D (by omega)) (fun r10 s10 => ?_)
              exact z_iret (pc := 145) dX0_gripOf_145 rfl rfl
            · refine z_tswC (n := 5) (off := 97) (tgt := 146) (pc := 49) dX0_gripOf_49 (by decide) (by decide) (by decide) (by decide) ?_ (fun h4 => ?_)
              · refine z_aload_n (pc := 146) dX0_gripOf_146 rfl rfl ?_
                refine gfX0_3 (pc := 147) dX0_gripOf_147 hc.1 w_3_5 rfl ?_
                refine z_iload_n (pc := 150) dX0_gripOf_150 rfl rfl ?_
                refine z_iald (pc := 151) dX0_gripOf_151 hc.2.2.2.1 ?_
                exact z_iret (pc := 152) dX0_gripOf_152 rfl rfl
              · refine z_tswD (tgt := 153) (pc := 49) dX0_gripOf_49 (by have t0 := lv_neT h0 (a := 1) rfl; have t1 := lv_neT h1 (a := 2) rfl; have t2 := lv_neT h2 (a := 3) rfl; have t3 := lv_neT h3 (a := 4) rfl; have t4 := lv_neT h4 (a := 5) rfl; omega) (by decide) ?_
                refine z_iload_n (pc := 153) dX0_gripOf_153 rfl rfl ?_
                exact z_iret (pc := 154) dX0_gripOf_154 rfl rfl
    · refine z_iconst_0 (pc := 16) dX0_gripOf_16 ?_
      exact z_iret (pc := 17) dX0_gripOf_17 rfl rfl
def fX0_handedOn (c : Nat) (a1 : Int32) (a2 : Int32) (σ : z_Mem) : Option (Int32 × z_Mem) :=
  z_bd (fX0_has c a1 σ) (fun r1 s1 => if r1 = 0 then (some ((0 : Int32), s1)) else (z_bd (fX4_value c (1 : Int32) a1 (-1 : Int32) s1) (fun r2 s2 => z_bd (fX5_bounded r2 s2) (fun r3 s3 => z_gd (z_in a1 6) (if s3.1 (c + 1) (z_x a1) = 1 then (z_bd (fX5_bounded a2 s3) (fun r4 s4 => some (r4, s4))) else if s3.1 (c + 1) (z_x a1) = 2 then (z_bd (fX5_bounded ((a2 - r3) / (2 : Int32)) s3) (fun r5 s5 => some (r5, s5))) else if s3.1 (c + 1) (z_x a1) = 3 then (if (s3.1 c 7) - (s3.1 c 7) / (2 : Int32) * (2 : Int32) = 0 then (z_bd (fX5_bounded a2 s3) (fun r7 s7 => some (r7, s7))) else (z_bd (fX5_bounded (a2 - r3) s3) (fun r6 s6 => some (r6, s6)))) else if s3.1 (c + 1) (z_x a1) = 4 then (if (5 : Int32) ≤ a2 then (z_bd (fX5_bounded ((a2 - r3) / (2 : Int32)) s3) (fun r8 s8 => some (r8, s8))) else (z_bd (fX5_bounded a2 s3) (fun r9 s9 => some (r9, s9)))) else if s3.1 (c + 1) (z_x a1) = 5 then (z_bd (fX5_bounded ((a2 - r3) + (10 : Int32)) s3) (fun r10 s10 => some (r10, s10))) else z_bd (fX5_bounded (a2 - r3) s3) (fun r11 s11 => some (r11, s11)))))))
theorem kX0_handedOn (c : Nat) (hc : z_lm c) (a1 : Int32) (a2 : Int32) (σ : z_Mem) (D : Nat) (hD : 3 ≤ D) : z_Call YC mX0_handedOn D z_i [zR c, zI a1, zI a2] σ (fX0_handedOn c a1 a2 σ) := by
  obtain ⟨D, rfl⟩ : ∃ E, D = E + 1 := ⟨D - 1, by omega⟩
  replace hD : 2 ≤ D := by omega
  refine z_entry (lv := [some (zR c), some (zI a1), some (zI a2), none]) (by decide) rfl (Nat.le_of_ble_eq_true rfl) rfl ?_
  rw [fX0_handedOn]
  refine z_aload_n (pc := 0) dX0_handedOn_0 rfl rfl ?_
  refine z_iload_n (pc := 1) dX0_handedOn_1 rfl rfl ?_
  refine z_V1i (pc := 2) dX0_handedOn_2 lVX0_54 hc.1 rfl (Nat.le_of_ble_eq_true rfl) (kX0_has c hc a1 σ D (by omega)) (fun r1 s1 => ?_)
  refine z_if_ne (tgt := 10) (pc := 5) dX0_handedOn_5 (by decide) (fun _ => ?_) (fun _ => ?_)
  · refine z_iload_n (pc := 10) dX0_handedOn_10 rfl rfl ?_
    refine z_aload_n (pc := 11) dX0_handedOn_11 rfl rfl ?_
    refine gfX0_0 (pc := 12) dX0_handedOn_12 hc.1 w_3_7 rfl ?_
    refine z_iconst_1 (pc := 15) dX0_handedOn_15 ?_
    refine z_aload_n (pc := 16) dX0_handedOn_16 rfl rfl ?_
    refine z_iload_n (pc := 17) dX0_handedOn_17 rfl rfl ?_
    refine z_iconst_m1 (pc := 18) dX0_handedOn_18 ?_
    refine z_V4i (pc := 19) dX0_handedOn_19 lVX0_95 yc_1 rfl (Nat.le_of_ble_eq_true rfl) (kX4_value c hc (1 : Int32) a1 (-1 : Int32) s1 D (by omega)) (fun r2 s2 => ?_)
    refine z_N1i (pc := 22) dX0_handedOn_22 lNX0_101 (Nat.le_of_ble_eq_true rfl) (kX5_bounded r2 s2 D (by omega)) (fun r3 s3 => ?_)
    refine z_isub (pc := 25) dX0_handedOn_25 ?_
    refine z_istore_n (pc := 26) dX0_handedOn_26 rfl (Nat.le_of_ble_eq_true rfl) (z_so4_3 rfl) ?_
    refine z_aload_n (pc := 27) dX0_handedOn_27 rfl rfl ?_
    refine gfX0_1 (pc := 28) dX0_handedOn_28 hc.1 w_3_3 rfl ?_
    refine z_iload_n (pc := 31) dX0_handedOn_31 rfl rfl ?_
    refine z_iald (pc := 32) dX0_handedOn_32 hc.2.1 ?_
    refine z_tswC (n := 1) (off := 35) (tgt := 68) (pc := 33) dX0_handedOn_33 (by decide) (by decide) (by decide) (by decide) ?_ (fun h0 => ?_)
    · refine z_iload_n (pc := 68) dX0_handedOn_68 rfl rfl ?_
      refine z_N1i (pc := 69) dX0_handedOn_69 lNX0_101 (Nat.le_of_ble_eq_true rfl) (kX5_bounded a2 s3 D (by omega)) (fun r4 s4 => ?_)
      exact z_iret (pc := 72) dX0_handedOn_72 rfl rfl
    · refine z_tswC (n := 2) (off := 40) (tgt := 73) (pc := 33) dX0_handedOn_33 (by decide) (by decide) (by decide) (by decide) ?_ (fun h1 => ?_)
      · refine z_iload_n (pc := 73) dX0_handedOn_73 rfl rfl ?_
        refine z_iconst_2 (pc := 74) dX0_handedOn_74 ?_
        refine z_idivK (pc := 75) dX0_handedOn_75 (by decide) ?_
        refine z_N1i (pc := 76) dX0_handedOn_76 lNX0_101 (Nat.le_of_ble_eq_true rfl) (kX5_bounded ((a2 - r3) / (2 : Int32)) s3 D (by omega)) (fun r5 s5 => ?_)
        exact z_iret (pc := 79) dX0_handedOn_79 rfl rfl
      · refine z_tswC (n := 3) (off := 47) (tgt := 80) (pc := 33) dX0_handedOn_33 (by decide) (by decide) (by decide) (by decide) ?_ (fun h2 => ?_)
        · refine z_aload_n (pc := 80) dX0_handedOn_80 rfl rfl ?_
          refine gfX0_7 (pc := 81) dX0_handedOn_81 hc.1 w_11_20 rfl ?_
          refine z_iconst_2 (pc := 84) dX0_handedOn_84 ?_
          refine z_iremK (pc := 85) dX0_handedOn_85 (by decide) ?_
          refine z_if_ne (tgt := 93) (pc := 86) dX0_handedOn_86 (by decide) (fun _ => ?_) (fun _ => ?_)
          · refine z_iload_n (pc := 93) dX0_handedOn_93 rfl rfl ?_
            refine z_N1i (pc := 94) dX0_handedOn_94 lNX0_101 (Nat.le_of_ble_eq_true rfl) (kX5_bounded (a2 - r3) s3 D (by omega)) (fun r6 s6 => ?_)
            exact z_iret (pc := 97) dX0_handedOn_97 rfl rfl
          · refine z_iload_n (pc := 89) dX0_handedOn_89 rfl rfl ?_
            refine z_goto (tgt := 94) (pc := 90) dX0_handedOn_90 (by decide) ?_
            refine z_N1i (pc := 94) dX0_handedOn_94 lNX0_101 (Nat.le_of_ble_eq_true rfl) (kX5_bounded a2 s3 D (by omega)) (fun r7 s7 => ?_)
            exact z_iret (pc := 97) dX0_handedOn_97 rfl rfl
        · refine z_tswC (n := 4) (off := 65) (tgt := 98) (pc := 33) dX0_handedOn_33 (by decide) (by decide) (by decide) (by decide) ?_ (fun h3 => ?_)
          · refine z_iload_n (pc := 98) dX0_handedOn_98 rfl rfl ?_
            refine z_iconst_5 (pc := 99) dX0_handedOn_99 ?_
            refine z_icmp_ge (tgt := 107) (pc := 100) dX0_handedOn_100 (by decide) (fun _ => ?_) (fun _ => ?_)
            · refine z_iload_n (pc := 107) dX0_handedOn_107 rfl rfl ?_
              refine z_iconst_2 (pc := 108) dX0_handedOn_108 ?_
              refine z_idivK (pc := 109) dX0_handedOn_109 (by decide) ?_
              refine z_N1i (pc := 110) dX0_handedOn_110 lNX0_101 (Nat.le_of_ble_eq_true rfl) (kX5_bounded ((a2 - r3) / (2 : Int32)) s3 D (by omega)) (fun r8 s8 => ?_)
              exact z_iret (pc := 113) dX0_handedOn_113 rfl rfl
            · refine z_iload_n (pc := 103) dX0_handedOn_103 rfl rfl ?_
              refine z_goto (tgt := 110) (pc := 104) dX0_handedOn_104 (by decide) ?_
              refine z_N1i (pc := 110) dX0_handedOn_110 lNX0_101 (Nat.le_of_ble_eq_true rfl) (kX5_bounded a2 s3 D (by omega)) (fun r9 s9 => ?_)
              exact z_iret (pc := 113) dX0_handedOn_113 rfl rfl
          · refine z_tswC (n := 5) (off := 81) (tgt := 114) (pc := 33) dX0_handedOn_33 (by decide) (by decide) (by decide) (by decide) ?_ (fun h4 => ?_)
            · refine z_iload_n (pc := 114) dX0_handedOn_114 rfl rfl ?_
              refine z_bipush_10 (pc := 115) dX0_handedOn_115 ?_
              refine z_iadd (pc := 117) dX0_handedOn_117 ?_
              refine z_N1i (pc := 118) dX0_handedOn_118 lNX0_101 (Nat.le_of_ble_eq_true rfl) (kX5_bounded ((a2 - r3) + (10 : Int32)) s3 D (by omega)) (fun r10 s10 => ?_)
              exact z_iret (pc := 121) dX0_handedOn_121 rfl rfl
            · refine z_tswD (tgt := 122) (pc := 33) dX0_handedOn_33 (by have t0 := lv_neT h0 (a := 1) rfl; have t1 := lv_neT h1 (a := 2) rfl; have t2 := lv_neT h2 (a := 3) rfl; have t3 := lv_neT h3 (a := 4) rfl; have t4 := lv_neT h4 (a := 5) rfl; omega) (by decide) ?_
              refine z_iload_n (pc := 122) dX0_handedOn_122 rfl rfl ?_
              refine z_N1i (pc := 123) dX0_handedOn_123 lNX0_101 (Nat.le_of_ble_eq_true rfl) (kX5_bounded (a2 - r3) s3 D (by omega)) (fun r11 s11 => ?_)
              exact z_iret (pc := 126) dX0_handedOn_126 rfl rfl
  · refine z_iconst_0 (pc := 8) dX0_handedOn_8 ?_
    exact z_iret (pc := 9) dX0_handedOn_9 rfl rfl
def fX0_spentBy (c : Nat) (a1 : Int32) (σ : z_Mem) : Option (Int32 × z_Mem) :=
  z_bd (fX0_has c a1 σ) (fun r1 s1 => if r1 = 0 then (some ((0 : Int32), s1)) else (z_bd (fX4_value c (2 : Int32) a1 (-1 : Int32) s1) (fun r2 s2 => z_bd (fX5_bounded r2 s2) (fun r3 s3 => z_gd (z_in a1 6) (if s3.1 (c + 1) (z_x a1) = 1 then (some (r3 / (2 : Int32), s3)) else if s3.1 (c + 1) (z_x a1) = 2 then (z_bd (fX5_bounded (r3 + (1 : Int32)) s3) (fun r4 s4 => some (r4, s4))) else if s3.1 (c + 1) (z_x a1) = 3 then (some (r3 / (2 : Int32), s3)) else if s3.1 (c + 1) (z_x a1) = 4 then (if s3.1 c 8 ≤ (20 : Int32) then (some ((0 : Int32), s3)) else (z_bd (fX5_bounded (r3 + (1 : Int32)) s3) (fun r5 s5 => some (r5, s5)))) else if s3.1 (c + 1) (z_x a1) = 5 then (some ((0 : Int32), s3)) else some (r3, s3))))))
theorem kX0_spentBy (c : Nat) (hc : z_lm c) (a1 : Int32) (σ : z_Mem) (D : Nat) (hD : 3 ≤ D) : z_Call YC mX0_spentBy D z_i [zR c, zI a1] σ (fX0_spentBy c a1 σ) := by
  obtain ⟨D, rfl⟩ : ∃ E, D = E + 1 := ⟨D - 1, by omega⟩
  replace hD : 2 ≤ D := by omega
  refine z_entry (lv := [some (zR c), some (zI a1), none]) (by decide) rfl (Nat.le_of_ble_eq_true rfl) rfl ?_
  rw [fX0_spentBy]
  refine z_aload_n (pc := 0) dX0_spentBy_0 rfl rfl ?_
  refine z_iload_n (pc := 1) dX0_spentBy_1 rfl rfl ?_
  refine z_V1i (pc := 2) dX0_spentBy_2 lVX0_54 hc.1 rfl (Nat.le_of_ble_eq_true rfl) (kX0_has c hc a1 σ D (by omega)) (fun r1 s1 => ?_)
  refine z_if_ne (tgt := 10) (pc := 5) dX0_spentBy_5 (by decide) (fun _ => ?_) (fun _ => ?_)
  · refine z_aload_n (pc := 10) dX0_spentBy_10 rfl rfl ?_
    refine gfX0_0 (pc := 11) dX0_spentBy_11 hc.1 w_3_7 rfl ?_
    refine z_iconst_2 (pc := 14) dX0_spentBy_14 ?_
    refine z_aload_n (pc := 15) dX0_spentBy_15 rfl rfl ?_
    refine z_iload_n (pc := 16) dX0_spentBy_16 rfl rfl ?_
    refine z_iconst_m1 (pc := 17) dX0_spentBy_17 ?_
    refine z_V4i (pc := 18) dX0_spentBy_18 lVX0_95 yc_1 rfl (Nat.le_of_ble_eq_true rfl) (kX4_value c hc (2 : Int32) a1 (-1 : Int32) s1 D (by omega)) (fun r2 s2 => ?_)
    refine z_N1i (pc := 21) dX0_spentBy_21 lNX0_101 (Nat.le_of_ble_eq_true rfl) (kX5_bounded r2 s2 D (by omega)) (fun r3 s3 => ?_)
    refine z_istore_n (pc := 24) dX0_spentBy_24 rfl (Nat.le_of_ble_eq_true rfl) (z_so3_2 rfl) ?_
    refine z_aload_n (pc := 25) dX0_spentBy_25 rfl rfl ?_
    refine gfX0_1 (pc := 26) dX0_spentBy_26 hc.1 w_3_3 rfl ?_
    refine z_iload_n (pc := 29) dX0_spentBy_29 rfl rfl ?_
    refine z_iald (pc := 30) dX0_spentBy_30 hc.2.1 ?_
    refine z_tswC (n := 1) (off := 33) (tgt := 64) (pc := 31) dX0_spentBy_31 (by decide) (by decide) (by decide) (by decide) ?_ (fun h0 => ?_)
    · refine z_iload_n (pc := 64) dX0_spentBy_64 rfl rfl ?_
      refine z_iconst_2 (pc := 65) dX0_spentBy_65 ?_
      refine z_idivK (pc := 66) dX0_spentBy_66 (by decide) ?_
      exact z_iret (pc := 67) dX0_spentBy_67 rfl rfl
    · refine z_tswC (n := 2) (off := 37) (tgt := 68) (pc := 31) dX0_spentBy_31 (by decide) (by decide) (by decide) (by decide) ?_ (fun h1 => ?_)
      · refine z_iload_n (pc := 68) dX0_spentBy_68 rfl rfl ?_
        refine z_iconst_1 (pc := 69) dX0_spentBy_69 ?_
        refine z_iadd (pc := 70) dX0_spentBy_70 ?_
        refine z_N1i (pc := 71) dX0_spentBy_71 lNX0_101 (Nat.le_of_ble_eq_true rfl) (kX5_bounded (r3 + (1 : Int32)) s3 D (by omega)) (fun r4 s4 => ?_)
        exact z_iret (pc := 74) dX0_spentBy_74 rfl rfl
      · refine z_tswC (n := 3) (off := 33) (tgt := 64) (pc := 31) dX0_spentBy_31 (by decide) (by decide) (by decide) (by decide) ?_ (fun h2 => ?_)
        · refine z_iload_n (pc := 64) dX0_spentBy_64 rfl rfl ?_
          refine z_iconst_2 (pc := 65) dX0_spentBy_65 ?_
          refine z_idivK (pc := 66) dX0_spentBy_66 (by decide) ?_
          exact z_iret (pc := 67) dX0_spentBy_67 rfl rfl
        · refine z_tswC (n := 4) (off := 44) (tgt := 75) (pc := 31) dX0_spentBy_31 (by decide) (by decide) (by decide) (by decide) ?_ (fun h3 => ?_)
          · refine z_aload_n (pc := 75) dX0_spentBy_75 rfl rfl ?_
            refine gfX0_8 (pc := 76) dX0_spentBy_76 hc.1 w_11_21 rfl ?_
            refine z_bipush_20 (pc := 79) dX0_spentBy_79 ?_
            refine z_icmp_le (tgt := 93) (pc := 81) dX0_spentBy_81 (by decide) (fun _ => ?_) (fun _ => ?_)
            · refine z_iconst_0 (pc := 93) dX0_spentBy_93 ?_
              exact z_iret (pc := 94) dX0_spentBy_94 rfl rfl
            · refine z_iload_n (pc := 84) dX0_spentBy_84 rfl rfl ?_
              refine z_iconst_1 (pc := 85) dX0_spentBy_85 ?_
              refine z_iadd (pc := 86) dX0_spentBy_86 ?_
              refine z_N1i (pc := 87) dX0_spentBy_87 lNX0_101 (Nat.le_of_ble_eq_true rfl) (kX5_bounded (r3 + (1 : Int32)) s3 D (by omega)) (fun r5 s5 => ?_)
              refine z_goto (tgt := 94) (pc := 90) dX0_spentBy_90 (by decide) ?_
              exact z_iret (pc := 94) dX0_spentBy_94 rfl rfl
          · refine z_tswC (n := 5) (off := 64) (tgt := 95) (pc := 31) dX0_spentBy_31 (by decide) (by decide) (by decide) (by decide) ?_ (fun h4 => ?_)
            · refine z_iconst_0 (pc := 95) dX0_spentBy_95 ?_
              exact z_iret (pc := 96) dX0_spentBy_96 rfl rfl
            · refine z_tswD (tgt := 97) (pc := 31) dX0_spentBy_31 (by have t0 := lv_neT h0 (a := 1) rfl; have t1 := lv_neT h1 (a := 2) rfl; have t2 := lv_neT h2 (a := 3) rfl; have t3 := lv_neT h3 (a := 4) rfl; have t4 := lv_neT h4 (a := 5) rfl; omega) (by decide) ?_
              refine z_iload_n (pc := 97) dX0_spentBy_97 rfl rfl ?_
              exact z_iret (pc := 98) dX0_spentBy_98 rfl rfl
  · refine z_iconst_0 (pc := 8) dX0_spentBy_8 ?_
    exact z_iret (pc := 9) dX0_spentBy_9 rfl rfl
def fX0_passHour_2 (c : Nat) : Nat → Int32 → z_Mem → Option (Unit × z_Mem)
  | 0, _, _ => none
  | q + 1, l1, σ => if σ.1 c 6 ≤ l1 then (z_st (z_pt σ c 7 ((σ.1 c 7) + (1 : Int32))) (fun s1 => some ((), s1))) else (z_bd (fX0_who c l1 σ) (fun r2 s2 => z_bd (fX0_has c r2 s2) (fun r3 s3 => if r3 = 0 then (fX0_passHour_2 c q (l1 + 1) s3) else (z_gd (z_in r2 6) (z_bd (fX0_spentBy c r2 s3) (fun r4 s4 => z_gd (z_in r2 6) (z_st (z_pt s4 (c + 3) (z_x r2) (z_mx (0 : Int32) ((s3.1 (c + 3) (z_x r2)) - r4))) (fun s5 => fX0_passHour_2 c q (l1 + 1) s5))))))))
theorem kX0_passHour_2 (D : Nat) (c : Nat) (hc : z_lm c) (hD : 3 ≤ D) : ∀ (q : Nat) (l1 : Int32)  (σ : z_Mem), z_Go YC mX0_passHour (D + 1) z_u 2 [some (zR c), some (zI l1), none] [] σ (fX0_passHour_2 c q l1 σ) := by
  intro q
  induction q with
  | zero => intros; exact z_none
  | succ q ih =>
    intro l1 σ
    rw [fX0_passHour_2]
    refine z_iload_n (pc := 2) dX0_passHour_2 rfl rfl ?_
    refine z_aload_n (pc := 3) dX0_passHour_3 rfl rfl ?_
    refine gfX0_6 (pc := 4) dX0_passHour_4 hc.1 w_18_14 rfl ?_
    refine z_icmp_ge (tgt := 52) (pc := 7) dX0_passHour_7 (by decide) (fun _ => ?_) (fun _ => ?_)
    · refine z_aload_n (pc := 52) dX0_passHour_52 rfl rfl ?_
      refine z_dup (pc := 53) dX0_passHour_53 rfl ?_
      refine gfX0_7 (pc := 54) dX0_passHour_54 hc.1 w_11_20 rfl ?_
      refine z_iconst_1 (pc := 57) dX0_passHour_57 ?_
      refine z_iadd (pc := 58) dX0_passHour_58 ?_
      refine pfX0_7 (pc := 59) dX0_passHour_59 hc.1 w_11_20 rfl ?_
      refine z_let (fun s1 => ?_)
      exact z_vret (pc := 62) dX0_passHour_62 rfl
    · refine z_aload_n (pc := 10) dX0_passHour_10 rfl rfl ?_
      refine z_iload_n (pc := 11) dX0_passHour_11 rfl rfl ?_
      refine z_V1i (pc := 12) dX0_passHour_12 lVX0_58 hc.1 rfl (Nat.le_of_ble_eq_true rfl) (kX0_who c hc l1 σ D (by omega)) (fun r2 s2 => ?_)
      refine z_istore_n (pc := 15) dX0_passHour_15 rfl (Nat.le_of_ble_eq_true rfl) (z_so3_2 rfl) ?_
      refine z_aload_n (pc := 16) dX0_passHour_16 rfl rfl ?_
      refine z_iload_n (pc := 17) dX0_passHour_17 rfl rfl ?_
      refine z_V1i (pc := 18) dX0_passHour_18 lVX0_54 hc.1 rfl (Nat.le_of_ble_eq_true rfl) (kX0_has c hc r2 s2 D (by omega)) (fun r3 s3 => ?_)
      refine z_if_eq (tgt := 46) (pc := 21) dX0_passHour_21 (by decide) (fun _ => ?_) (fun _ => ?_)
      · refine z_iinc (y := 1) (pc := 46) dX0_passHour_46 rfl (by decide) (Nat.le_of_ble_eq_true rfl) (z_so3_1 rfl) ?_
        refine z_goto (tgt := 2) (pc := 49) dX0_passHour_49 (by decide) ?_
        exact z_weak (lv' := [some (zR c), some (zI (l1 + 1)), none]) (z_sub_ok ⟨rfl, rfl, trivial⟩) (ih (l1 + 1) s3)
      · refine z_aload_n (pc := 24) dX0_passHour_24 rfl rfl ?_
        refine gfX0_3 (pc := 25) dX0_passHour_25 hc.1 w_3_5 rfl ?_
        refine z_iload_n (pc := 28) dX0_passHour_28 rfl rfl ?_
        refine z_iconst_0 (pc := 29) dX0_passHour_29 ?_
        refine z_aload_n (pc := 30) dX0_passHour_30 rfl rfl ?_
        refine gfX0_3 (pc := 31) dX0_passHour_31 hc.1 w_3_5 rfl ?_
        refine z_iload_n (pc := 34) dX0_passHour_34 rfl rfl ?_
        refine z_iald (pc := 35) dX0_passHour_35 hc.2.2.2.1 ?_
        refine z_aload_n (pc := 36) dX0_passHour_36 rfl rfl ?_
        refine z_iload_n (pc := 37) dX0_passHour_37 rfl rfl ?_
        refine z_V1i (pc := 38) dX0_passHour_38 lVX0_62 hc.1 rfl (Nat.le_of_ble_eq_true rfl) (kX0_spentBy c hc r2 s3 D (by omega)) (fun r4 s4 => ?_)
        refine z_isub (pc := 41) dX0_passHour_41 ?_
        refine z_max (pc := 42) rfl dX0_passHour_42 w_26_17 w_26_18 w_19_21 w_26_19 (fun _ => Nat.le_of_ble_eq_true rfl) ?_
        refine z_iast (pc := 45) dX0_passHour_45 hc.2.2.2.1 ?_
        refine z_let (fun s5 => ?_)
        refine z_iinc (y := 1) (pc := 46) dX0_passHour_46 rfl (by decide) (Nat.le_of_ble_eq_true rfl) (z_so3_1 rfl) ?_
        refine z_goto (tgt := 2) (pc := 49) dX0_passHour_49 (by decide) ?_
        exact z_weak (lv' := [some (zR c), some (zI (l1 + 1)), none]) (z_sub_ok ⟨rfl, rfl, trivial⟩) (ih (l1 + 1) s5)
def fX0_passHour (c : Nat)  (σ : z_Mem) : Option (Unit × z_Mem) :=
  fX0_passHour_2 c z_FU (0 : Int32) σ
theorem kX0_passHour (c : Nat) (hc : z_lm c)  (σ : z_Mem) (D : Nat) (hD : 4 ≤ D) : z_Call YC mX0_passHour D z_u [zR c] σ (fX0_passHour c σ) := by
  obtain ⟨D, rfl⟩ : ∃ E, D = E + 1 := ⟨D - 1, by omega⟩
  replace hD : 3 ≤ D := by omega
  refine z_entry (lv := [some (zR c), none, none]) (by decide) rfl (Nat.le_of_ble_eq_true rfl) rfl ?_
  rw [fX0_passHour]
  refine z_iconst_0 (pc := 0) dX0_passHour_0 ?_
  refine z_istore_n (pc := 1) dX0_passHour_1 rfl (Nat.le_of_ble_eq_true rfl) (z_so3_1 rfl) ?_
  exact kX0_passHour_2 D c hc hD z_FU (0 : Int32) σ
def fX0_holdFrom (c : Nat) (a1 : Int32) (σ : z_Mem) : Option (Int32 × z_Mem) :=
  z_bd (fX0_who c a1 σ) (fun r1 s1 => z_bd (fX0_placeBehind c a1 s1) (fun r2 s2 => z_bd (fX0_who c r2 s2) (fun r3 s3 => z_bd (fX0_gripOf c r1 r3 s3) (fun r4 s4 => z_bd (fX0_gripOf c r3 r1 s4) (fun r5 s5 => some (z_mn r4 r5, s5))))))
theorem kX0_holdFrom (c : Nat) (hc : z_lm c) (a1 : Int32) (σ : z_Mem) (D : Nat) (hD : 4 ≤ D) : z_Call YC mX0_holdFrom D z_i [zR c, zI a1] σ (fX0_holdFrom c a1 σ) := by
  obtain ⟨D, rfl⟩ : ∃ E, D = E + 1 := ⟨D - 1, by omega⟩
  replace hD : 3 ≤ D := by omega
  refine z_entry (lv := [some (zR c), some (zI a1), none, none]) (by decide) rfl (Nat.le_of_ble_eq_true rfl) rfl ?_
  rw [fX0_holdFrom]
  refine z_aload_n (pc := 0) dX0_holdFrom_0 rfl rfl ?_
  refine z_iload_n (pc := 1) dX0_holdFrom_1 rfl rfl ?_
  refine z_V1i (pc := 2) dX0_holdFrom_2 lVX0_58 hc.1 rfl (Nat.le_of_ble_eq_true rfl) (kX0_who c hc a1 σ D (by omega)) (fun r1 s1 => ?_)
  refine z_istore_n (pc := 5) dX0_holdFrom_5 rfl (Nat.le_of_ble_eq_true rfl) (z_so4_2 rfl) ?_
  refine z_aload_n (pc := 6) dX0_holdFrom_6 rfl rfl ?_
  refine z_aload_n (pc := 7) dX0_holdFrom_7 rfl rfl ?_
  refine z_iload_n (pc := 8) dX0_holdFrom_8 rfl rfl ?_
  refine z_V1i (pc := 9) dX0_holdFrom_9 lVX0_71 hc.1 rfl (Nat.le_of_ble_eq_true rfl) (kX0_placeBehind c hc a1 s1 D (by omega)) (fun r2 s2 => ?_)
  refine z_V1i (pc := 12) dX0_holdFrom_12 lVX0_58 hc.1 rfl (Nat.le_of_ble_eq_true rfl) (kX0_who c hc r2 s2 D (by omega)) (fun r3 s3 => ?_)
  refine z_istore_n (pc := 15) dX0_holdFrom_15 rfl (Nat.le_of_ble_eq_true rfl) (z_so4_3 rfl) ?_
  refine z_aload_n (pc := 16) dX0_holdFrom_16 rfl rfl ?_
  refine z_iload_n (pc := 17) dX0_holdFrom_17 rfl rfl ?_
  refine z_iload_n (pc := 18) dX0_holdFrom_18 rfl rfl ?_
  refine z_V2i (pc := 19) dX0_holdFrom_19 lVX0_74 hc.1 rfl (Nat.le_of_ble_eq_true rfl) (kX0_gripOf c hc r1 r3 s3 D (by omega)) (fun r4 s4 => ?_)
  refine z_aload_n (pc := 22) dX0_holdFrom_22 rfl rfl ?_
  refine z_iload_n (pc := 23) dX0_holdFrom_23 rfl rfl ?_
  refine z_iload_n (pc := 24) dX0_holdFrom_24 rfl rfl ?_
  refine z_V2i (pc := 25) dX0_holdFrom_25 lVX0_74 hc.1 rfl (Nat.le_of_ble_eq_true rfl) (kX0_gripOf c hc r3 r1 s4 D (by omega)) (fun r5 s5 => ?_)
  refine z_min (pc := 28) rfl dX0_holdFrom_28 w_20_20 w_19_20 w_19_21 w_19_22 (fun _ => Nat.le_of_ble_eq_true rfl) ?_
  exact z_iret (pc := 31) dX0_holdFrom_31 rfl rfl
def fX0_weakest_9 (c : Nat) : Nat → Int32 → Int32 → Int32 → z_Mem → Option (Int32 × z_Mem)
  | 0, _, _, _, _ => none
  | q + 1, l1, l2, l3, σ => if l1 ≤ l3 then (some (l2, σ)) else (z_bd (fX0_holdFrom c l3 σ) (fun r2 s2 => if l2 = (-1 : Int32) then (fX0_weakest_9 c q l1 r2 (l3 + 1) s2) else (if l2 ≤ r2 then (fX0_weakest_9 c q l1 l2 (l3 + 1) s2) else (fX0_weakest_9 c q l1 r2 (l3 + 1) s2))))
theorem kX0_weakest_9 (D : Nat) (c : Nat) (hc : z_lm c) (hD : 4 ≤ D) : ∀ (q : Nat) (l1 : Int32) (l2 : Int32) (l3 : Int32)  (σ : z_Mem), z_Go YC mX0_weakest (D + 1) z_i 9 [some (zR c), some (zI l1), some (zI l2), some (zI l3), none] [] σ (fX0_weakest_9 c q l1 l2 l3 σ) := by
  intro q
  induction q with
  | zero => intros; exact z_none
  | succ q ih =>
    intro l1 l2 l3 σ
    rw [fX0_weakest_9]
    refine z_iload_n (pc := 9) dX0_weakest_9 rfl rfl ?_
    refine z_iload_n (pc := 10) dX0_weakest_10 rfl rfl ?_
    refine z_icmp_ge (tgt := 45) (pc := 11) dX0_weakest_11 (by decide) (fun _ => ?_) (fun _ => ?_)
    · refine z_iload_n (pc := 45) dX0_weakest_45 rfl rfl ?_
      exact z_iret (pc := 46) dX0_weakest_46 rfl rfl
    · refine z_aload_n (pc := 14) dX0_weakest_14 rfl rfl ?_
      refine z_iload_n (pc := 15) dX0_weakest_15 rfl rfl ?_
      refine z_V1i (pc := 16) dX0_weakest_16 lVX0_84 hc.1 rfl (Nat.le_of_ble_eq_true rfl) (kX0_holdFrom c hc l3 σ D (by omega)) (fun r2 s2 => ?_)
      refine z_istore (pc := 19) dX0_weakest_19 (Nat.le_of_ble_eq_true rfl) (z_so5_4 rfl) ?_
      refine z_iload_n (pc := 21) dX0_weakest_21 rfl rfl ?_
      refine z_iconst_m1 (pc := 22) dX0_weakest_22 ?_
      refine z_icmp_eq (tgt := 32) (pc := 23) dX0_weakest_23 (by decide) (fun _ => ?_) (fun _ => ?_)
      · refine z_iload (pc := 32) dX0_weakest_32 rfl ?_
        refine z_goto (tgt := 38) (pc := 34) dX0_weakest_34 (by decide) ?_
        refine z_istore_n (pc := 38) dX0_weakest_38 rfl (Nat.le_of_ble_eq_true rfl) (z_so5_2 rfl) ?_
        refine z_iinc (y := 1) (pc := 39) dX0_weakest_39 rfl (by decide) (Nat.le_of_ble_eq_true rfl) (z_so5_3 rfl) ?_
        refine z_goto (tgt := 9) (pc := 42) dX0_weakest_42 (by decide) ?_
        exact z_weak (lv' := [some (zR c), some (zI l1), some (zI r2), some (zI (l3 + 1)), none]) (z_sub_ok ⟨rfl, rfl, rfl, rfl, trivial⟩) (ih l1 r2 (l3 + 1) s2)
      · refine z_iload (pc := 26) dX0_weakest_26 rfl ?_
        refine z_iload_n (pc := 28) dX0_weakest_28 rfl rfl ?_
        refine z_icmp_ge (tgt := 37) (pc := 29) dX0_weakest_29 (by decide) (fun _ => ?_) (fun _ => ?_)
        · refine z_iload_n (pc := 37) dX0_weakest_37 rfl rfl ?_
          refine z_istore_n (pc := 38) dX0_weakest_38 rfl (Nat.le_of_ble_eq_true rfl) (z_so5_2 rfl) ?_
          refine z_iinc (y := 1) (pc := 39) dX0_weakest_39 rfl (by decide) (Nat.le_of_ble_eq_true rfl) (z_so5_3 rfl) ?_
          refine z_goto (tgt := 9) (pc := 42) dX0_weakest_42 (by decide) ?_
          exact z_weak (lv' := [some (zR c), some (zI l1), some (zI l2), some (zI (l3 + 1)), none]) (z_sub_ok ⟨rfl, rfl, rfl, rfl, trivial⟩) (ih l1 l2 (l3 + 1) s2)
        · refine z_iload (pc := 32) dX0_weakest_32 rfl ?_
          refine z_goto (tgt := 38) (pc := 34) dX0_weakest_34 (by decide) ?_
          refine z_istore_n (pc := 38) dX0_weakest_38 rfl (Nat.le_of_ble_eq_true rfl) (z_so5_2 rfl) ?_
          refine z_iinc (y := 1) (pc := 39) dX0_weakest_39 rfl (by decide) (Nat.le_of_ble_eq_true rfl) (z_so5_3 rfl) ?_
          refine z_goto (tgt := 9) (pc := 42) dX0_weakest_42 (by decide) ?_
          exact z_weak (lv' := [some (zR c), some (zI l1), some (zI r2), some (zI (l3 + 1)), none]) (z_sub_ok ⟨rfl, rfl, rfl, rfl, trivial⟩) (ih l1 r2 (l3 + 1) s2)
def fX0_weakest (c : Nat)  (σ : z_Mem) : Option (Int32 × z_Mem) :=
  z_bd (fX0_holds c σ) (fun r1 s1 => fX0_weakest_9 c z_FU r1 (-1 : Int32) (0 : Int32) s1)
theorem kX0_weakest (c : Nat) (hc : z_lm c)  (σ : z_Mem) (D : Nat) (hD : 5 ≤ D) : z_Call YC mX0_weakest D z_i [zR c] σ (fX0_weakest c σ) := by
  obtain ⟨D, rfl⟩ : ∃ E, D = E + 1 := ⟨D - 1, by omega⟩
  replace hD : 4 ≤ D := by omega
  refine z_entry (lv := [some (zR c), none, none, none, none]) (by decide) rfl (Nat.le_of_ble_eq_true rfl) rfl ?_
  rw [fX0_weakest]
  refine z_aload_n (pc := 0) dX0_weakest_0 rfl rfl ?_
  refine z_V0i (pc := 1) dX0_weakest_1 lVX0_80 hc.1 rfl (Nat.le_of_ble_eq_true rfl) (kX0_holds c hc σ D (by omega)) (fun r1 s1 => ?_)
  refine z_istore_n (pc := 4) dX0_weakest_4 rfl (Nat.le_of_ble_eq_true rfl) (z_so5_1 rfl) ?_
  refine z_iconst_m1 (pc := 5) dX0_weakest_5 ?_
  refine z_istore_n (pc := 6) dX0_weakest_6 rfl (Nat.le_of_ble_eq_true rfl) (z_so5_2 rfl) ?_
  refine z_iconst_0 (pc := 7) dX0_weakest_7 ?_
  refine z_istore_n (pc := 8) dX0_weakest_8 rfl (Nat.le_of_ble_eq_true rfl) (z_so5_3 rfl) ?_
  exact kX0_weakest_9 D c hc hD z_FU r1 (-1 : Int32) (0 : Int32) s1
def fX0_gates_9 (c : Nat) : Nat → Int32 → Int32 → Int32 → z_Mem → Option (Int32 × z_Mem)
  | 0, _, _, _, _ => none
  | q + 1, l1, l2, l3, σ => if l1 ≤ l3 then (some (l2, σ)) else (z_bd (fX0_holdFrom c l3 σ) (fun r2 s2 => if r2 = 0 then (fX0_gates_9 c q l1 (l2 + 1) (l3 + 1) s2) else (fX0_gates_9 c q l1 l2 (l3 + 1) s2)))
theorem kX0_gates_9 (D : Nat) (c : Nat) (hc : z_lm c) (hD : 4 ≤ D) : ∀ (q : Nat) (l1 : Int32) (l2 : Int32) (l3 : Int32)  (σ : z_Mem), z_Go YC mX0_gates (D + 1) z_i 9 [some (zR c), some (zI l1), some (zI l2), some (zI l3)] [] σ (fX0_gates_9 c q l1 l2 l3 σ) := by
  intro q
  induction q with
  | zero => intros; exact z_none
  | succ q ih =>
    intro l1 l2 l3 σ
    rw [fX0_gates_9]
    refine z_iload_n (pc := 9) dX0_gates_9 rfl rfl ?_
    refine z_iload_n (pc := 10) dX0_gates_10 rfl rfl ?_
    refine z_icmp_ge (tgt := 31) (pc := 11) dX0_gates_11 (by decide) (fun _ => ?_) (fun _ => ?_)
    · refine z_iload_n (pc := 31) dX0_gates_31 rfl rfl ?_
      exact z_iret (pc := 32) dX0_gates_32 rfl rfl
    · refine z_aload_n (pc := 14) dX0_gates_14 rfl rfl ?_
      refine z_iload_n (pc := 15) dX0_gates_15 rfl rfl ?_
      refine z_V1i (pc := 16) dX0_gates_16 lVX0_84 hc.1 rfl (Nat.le_of_ble_eq_true rfl) (kX0_holdFrom c hc l3 σ D (by omega)) (fun r2 s2 => ?_)
      refine z_if_ne (tgt := 25) (pc := 19) dX0_gates_19 (by decide) (fun _ => ?_) (fun _ => ?_)
      · refine z_iinc (y := 1) (pc := 25) dX0_gates_25 rfl (by decide) (Nat.le_of_ble_eq_true rfl) (z_so4_3 rfl) ?_
        refine z_goto (tgt := 9) (pc := 28) dX0_gates_28 (by decide) ?_
        exact ih l1 l2 (l3 + 1) s2
      · refine z_iinc (y := 1) (pc := 22) dX0_gates_22 rfl (by decide) (Nat.le_of_ble_eq_true rfl) (z_so4_2 rfl) ?_
        refine z_iinc (y := 1) (pc := 25) dX0_gates_25 rfl (by decide) (Nat.le_of_ble_eq_true rfl) (z_so4_3 rfl) ?_
        refine z_goto (tgt := 9) (pc := 28) dX0_gates_28 (by decide) ?_
        exact ih l1 (l2 + 1) (l3 + 1) s2
def fX0_gates (c : Nat)  (σ : z_Mem) : Option (Int32 × z_Mem) :=
  z_bd (fX0_holds c σ) (fun r1 s1 => fX0_gates_9 c z_FU r1 (0 : Int32) (0 : Int32) s1)
theorem kX0_gates (c : Nat) (hc : z_lm c)  (σ : z_Mem) (D : Nat) (hD : 5 ≤ D) : z_Call YC mX0_gates D z_i [zR c] σ (fX0_gates c σ) := by
  obtain ⟨D, rfl⟩ : ∃ E, D = E + 1 := ⟨D - 1, by omega⟩
  replace hD : 4 ≤ D := by omega
  refine z_entry (lv := [some (zR c), none, none, none]) (by decide) rfl (Nat.le_of_ble_eq_true rfl) rfl ?_
  rw [fX0_gates]
  refine z_aload_n (pc := 0) dX0_gates_0 rfl rfl ?_
  refine z_V0i (pc := 1) dX0_gates_1 lVX0_80 hc.1 rfl (Nat.le_of_ble_eq_true rfl) (kX0_holds c hc σ D (by omega)) (fun r1 s1 => ?_)
  refine z_istore_n (pc := 4) dX0_gates_4 rfl (Nat.le_of_ble_eq_true rfl) (z_so4_1 rfl) ?_
  refine z_iconst_0 (pc := 5) dX0_gates_5 ?_
  refine z_istore_n (pc := 6) dX0_gates_6 rfl (Nat.le_of_ble_eq_true rfl) (z_so4_2 rfl) ?_
  refine z_iconst_0 (pc := 7) dX0_gates_7 ?_
  refine z_istore_n (pc := 8) dX0_gates_8 rfl (Nat.le_of_ble_eq_true rfl) (z_so4_3 rfl) ?_
  exact kX0_gates_9 D c hc hD z_FU r1 (0 : Int32) (0 : Int32) s1
def fX0_firstGate_7 (c : Nat) : Nat → Int32 → Int32 → z_Mem → Option (Int32 × z_Mem)
  | 0, _, _, _ => none
  | q + 1, l1, l2, σ => if l1 ≤ l2 then (some ((-1 : Int32), σ)) else (z_bd (fX0_holdFrom c l2 σ) (fun r2 s2 => if r2 = 0 then (some (l2, s2)) else (fX0_firstGate_7 c q l1 (l2 + 1) s2)))
theorem kX0_firstGate_7 (D : Nat) (c : Nat) (hc : z_lm c) (hD : 4 ≤ D) : ∀ (q : Nat) (l1 : Int32) (l2 : Int32)  (σ : z_Mem), z_Go YC mX0_firstGate (D + 1) z_i 7 [some (zR c), some (zI l1), some (zI l2)] [] σ (fX0_firstGate_7 c q l1 l2 σ) := by
  intro q
  induction q with
  | zero => intros; exact z_none
  | succ q ih =>
    intro l1 l2 σ
    rw [fX0_firstGate_7]
    refine z_iload_n (pc := 7) dX0_firstGate_7 rfl rfl ?_
    refine z_iload_n (pc := 8) dX0_firstGate_8 rfl rfl ?_
    refine z_icmp_ge (tgt := 28) (pc := 9) dX0_firstGate_9 (by decide) (fun _ => ?_) (fun _ => ?_)
    · refine z_iconst_m1 (pc := 28) dX0_firstGate_28 ?_
      exact z_iret (pc := 29) dX0_firstGate_29 rfl rfl
    · refine z_aload_n (pc := 12) dX0_firstGate_12 rfl rfl ?_
      refine z_iload_n (pc := 13) dX0_firstGate_13 rfl rfl ?_
      refine z_V1i (pc := 14) dX0_firstGate_14 lVX0_84 hc.1 rfl (Nat.le_of_ble_eq_true rfl) (kX0_holdFrom c hc l2 σ D (by omega)) (fun r2 s2 => ?_)
      refine z_if_ne (tgt := 22) (pc := 17) dX0_firstGate_17 (by decide) (fun _ => ?_) (fun _ => ?_)
      · refine z_iinc (y := 1) (pc := 22) dX0_firstGate_22 rfl (by decide) (Nat.le_of_ble_eq_true rfl) (z_so3_2 rfl) ?_
        refine z_goto (tgt := 7) (pc := 25) dX0_firstGate_25 (by decide) ?_
        exact ih l1 (l2 + 1) s2
      · refine z_iload_n (pc := 20) dX0_firstGate_20 rfl rfl ?_
        exact z_iret (pc := 21) dX0_firstGate_21 rfl rfl
def fX0_firstGate (c : Nat)  (σ : z_Mem) : Option (Int32 × z_Mem) :=
  z_bd (fX0_holds c σ) (fun r1 s1 => fX0_firstGate_7 c z_FU r1 (0 : Int32) s1)
theorem kX0_firstGate (c : Nat) (hc : z_lm c)  (σ : z_Mem) (D : Nat) (hD : 5 ≤ D) : z_Call YC mX0_firstGate D z_i [zR c] σ (fX0_firstGate c σ) := by
  obtain ⟨D, rfl⟩ : ∃ E, D = E + 1 := ⟨D - 1, by omega⟩
  replace hD : 4 ≤ D := by omega
  refine z_entry (lv := [some (zR c), none, none]) (by decide) rfl (Nat.le_of_ble_eq_true rfl) rfl ?_
  rw [fX0_firstGate]
  refine z_aload_n (pc := 0) dX0_firstGate_0 rfl rfl ?_
  refine z_V0i (pc := 1) dX0_firstGate_1 lVX0_80 hc.1 rfl (Nat.le_of_ble_eq_true rfl) (kX0_holds c hc σ D (by omega)) (fun r1 s1 => ?_)
  refine z_istore_n (pc := 4) dX0_firstGate_4 rfl (Nat.le_of_ble_eq_true rfl) (z_so3_1 rfl) ?_
  refine z_iconst_0 (pc := 5) dX0_firstGate_5 ?_
  refine z_istore_n (pc := 6) dX0_firstGate_6 rfl (Nat.le_of_ble_eq_true rfl) (z_so3_2 rfl) ?_
  exact kX0_firstGate_7 D c hc hD z_FU r1 (0 : Int32) s1
