def fX2_add  (a1 : Int32) (σ : z_Mem) : Option (Int32 × z_Mem) :=
  if σ.1 5 2 < (160 : Int32) then (z_gd (z_in (σ.1 5 2) 160) (z_st (z_pt σ 6 (z_x (σ.1 5 2)) a1) (fun s1 => z_st (z_pt s1 5 2 ((s1.1 5 2) + (1 : Int32))) (fun s2 => some ((1 : Int32), s2))))) else (some ((0 : Int32), σ))
theorem kX2_add   (a1 : Int32) (σ : z_Mem) (D : Nat) (hD : 1 ≤ D) : z_Call YC mX2_add D z_i [zR 5, zI a1] σ (fX2_add a1 σ) := by
  obtain ⟨D, rfl⟩ : ∃ E, D = E + 1 := ⟨D - 1, by omega⟩
  replace hD : 0 ≤ D := by omega
  refine z_entry (lv := [some (zR 5), some (zI a1)]) (by decide) rfl (Nat.le_of_ble_eq_true rfl) rfl ?_
  rw [fX2_add]
  refine z_aload_n (pc := 0) dX2_add_0 rfl rfl ?_
  refine gfX2_2 (pc := 1) dX2_add_1 yc_5 w_6_1 rfl ?_
  refine z_sipush_160 (pc := 4) dX2_add_4 ?_
  refine z_icmp_lt (tgt := 12) (pc := 7) dX2_add_7 (by decide) (fun _ => ?_) (fun _ => ?_)
  · refine z_aload_n (pc := 12) dX2_add_12 rfl rfl ?_
    refine gfX2_1 (pc := 13) dX2_add_13 yc_5 w_2_21 rfl ?_
    refine z_aload_n (pc := 16) dX2_add_16 rfl rfl ?_
    refine gfX2_2 (pc := 17) dX2_add_17 yc_5 w_6_1 rfl ?_
    refine z_iload_n (pc := 20) dX2_add_20 rfl rfl ?_
    refine z_iast (pc := 21) dX2_add_21 yc_6 ?_
    refine z_let (fun s1 => ?_)
    refine z_aload_n (pc := 22) dX2_add_22 rfl rfl ?_
    refine z_dup (pc := 23) dX2_add_23 rfl ?_
    refine gfX2_2 (pc := 24) dX2_add_24 yc_5 w_6_1 rfl ?_
    refine z_iconst_1 (pc := 27) dX2_add_27 ?_
    refine z_iadd (pc := 28) dX2_add_28 ?_
    refine pfX2_2 (pc := 29) dX2_add_29 yc_5 w_6_1 rfl ?_
    refine z_let (fun s2 => ?_)
    refine z_iconst_1 (pc := 32) dX2_add_32 ?_
    exact z_iret (pc := 33) dX2_add_33 rfl rfl
  · refine z_iconst_0 (pc := 10) dX2_add_10 ?_
    exact z_iret (pc := 11) dX2_add_11 rfl rfl
def fX2_isDigit  (a1 : Int32) (σ : z_Mem) : Option (Int32 × z_Mem) :=
  if a1 < (48 : Int32) then (some ((0 : Int32), σ)) else (if (57 : Int32) < a1 then (some ((0 : Int32), σ)) else (some ((1 : Int32), σ)))
theorem kX2_isDigit   (a1 : Int32) (σ : z_Mem) (D : Nat) (hD : 1 ≤ D) : z_Call YC mX2_isDigit D z_i [zI a1] σ (fX2_isDigit a1 σ) := by
  obtain ⟨D, rfl⟩ : ∃ E, D = E + 1 := ⟨D - 1, by omega⟩
  replace hD : 0 ≤ D := by omega
  refine z_entry (lv := [some (zI a1)]) (by decide) rfl (Nat.le_of_ble_eq_true rfl) rfl ?_
  rw [fX2_isDigit]
  refine z_iload_n (pc := 0) dX2_isDigit_0 rfl rfl ?_
  refine z_bipush_48 (pc := 1) dX2_isDigit_1 ?_
  refine z_icmp_lt (tgt := 16) (pc := 3) dX2_isDigit_3 (by decide) (fun _ => ?_) (fun _ => ?_)
  · refine z_iconst_0 (pc := 16) dX2_isDigit_16 ?_
    exact z_iret (pc := 17) dX2_isDigit_17 rfl rfl
  · refine z_iload_n (pc := 6) dX2_isDigit_6 rfl rfl ?_
    refine z_bipush_57 (pc := 7) dX2_isDigit_7 ?_
    refine z_icmp_gt (tgt := 16) (pc := 9) dX2_isDigit_9 (by decide) (fun _ => ?_) (fun _ => ?_)
    · refine z_iconst_0 (pc := 16) dX2_isDigit_16 ?_
      exact z_iret (pc := 17) dX2_isDigit_17 rfl rfl
    · refine z_iconst_1 (pc := 12) dX2_isDigit_12 ?_
      refine z_goto (tgt := 17) (pc := 13) dX2_isDigit_13 (by decide) ?_
      exact z_iret (pc := 17) dX2_isDigit_17 rfl rfl
def fX2_isSmall  (a1 : Int32) (σ : z_Mem) : Option (Int32 × z_Mem) :=
  if a1 < (97 : Int32) then (some ((0 : Int32), σ)) else (if (122 : Int32) < a1 then (some ((0 : Int32), σ)) else (some ((1 : Int32), σ)))
theorem kX2_isSmall   (a1 : Int32) (σ : z_Mem) (D : Nat) (hD : 1 ≤ D) : z_Call YC mX2_isSmall D z_i [zI a1] σ (fX2_isSmall a1 σ) := by
  obtain ⟨D, rfl⟩ : ∃ E, D = E + 1 := ⟨D - 1, by omega⟩
  replace hD : 0 ≤ D := by omega
  refine z_entry (lv := [some (zI a1)]) (by decide) rfl (Nat.le_of_ble_eq_true rfl) rfl ?_
  rw [fX2_isSmall]
  refine z_iload_n (pc := 0) dX2_isSmall_0 rfl rfl ?_
  refine z_bipush_97 (pc := 1) dX2_isSmall_1 ?_
  refine z_icmp_lt (tgt := 16) (pc := 3) dX2_isSmall_3 (by decide) (fun _ => ?_) (fun _ => ?_)
  · refine z_iconst_0 (pc := 16) dX2_isSmall_16 ?_
    exact z_iret (pc := 17) dX2_isSmall_17 rfl rfl
  · refine z_iload_n (pc := 6) dX2_isSmall_6 rfl rfl ?_
    refine z_bipush_122 (pc := 7) dX2_isSmall_7 ?_
    refine z_icmp_gt (tgt := 16) (pc := 9) dX2_isSmall_9 (by decide) (fun _ => ?_) (fun _ => ?_)
    · refine z_iconst_0 (pc := 16) dX2_isSmall_16 ?_
      exact z_iret (pc := 17) dX2_isSmall_17 rfl rfl
    · refine z_iconst_1 (pc := 12) dX2_isSmall_12 ?_
      refine z_goto (tgt := 17) (pc := 13) dX2_isSmall_13 (by decide) ?_
      exact z_iret (pc := 17) dX2_isSmall_17 rfl rfl
def fX2_isSign  (a1 : Int32) (σ : z_Mem) : Option (Int32 × z_Mem) :=
  if a1 = (40 : Int32) then (some ((1 : Int32), σ)) else (if a1 = (41 : Int32) then (some ((1 : Int32), σ)) else (if a1 = (59 : Int32) then (some ((1 : Int32), σ)) else (if a1 = (43 : Int32) then (some ((1 : Int32), σ)) else (if a1 = (45 : Int32) then (some ((1 : Int32), σ)) else (if a1 = (42 : Int32) then (some ((1 : Int32), σ)) else (if a1 = (60 : Int32) then (some ((1 : Int32), σ)) else (if a1 = (61 : Int32) then (some ((1 : Int32), σ)) else (some ((0 : Int32), σ)))))))))
theorem kX2_isSign   (a1 : Int32) (σ : z_Mem) (D : Nat) (hD : 1 ≤ D) : z_Call YC mX2_isSign D z_i [zI a1] σ (fX2_isSign a1 σ) := by
  obtain ⟨D, rfl⟩ : ∃ E, D = E + 1 := ⟨D - 1, by omega⟩
  replace hD : 0 ≤ D := by omega
  refine z_entry (lv := [some (zI a1)]) (by decide) rfl (Nat.le_of_ble_eq_true rfl) rfl ?_
  rw [fX2_isSign]
  refine z_iload_n (pc := 0) dX2_isSign_0 rfl rfl ?_
  refine z_bipush_40 (pc := 1) dX2_isSign_1 ?_
  refine z_icmp_eq (tgt := 48) (pc := 3) dX2_isSign_3 (by decide) (fun _ => ?_) (fun _ => ?_)
  · refine z_iconst_1 (pc := 48) dX2_isSign_48 ?_
    refine z_goto (tgt := 53) (pc := 49) dX2_isSign_49 (by decide) ?_
    exact z_iret (pc := 53) dX2_isSign_53 rfl rfl
  · refine z_iload_n (pc := 6) dX2_isSign_6 rfl rfl ?_
    refine z_bipush_41 (pc := 7) dX2_isSign_7 ?_
    refine z_icmp_eq (tgt := 48) (pc := 9) dX2_isSign_9 (by decide) (fun _ => ?_) (fun _ => ?_)
    · refine z_iconst_1 (pc := 48) dX2_isSign_48 ?_
      refine z_goto (tgt := 53) (pc := 49) dX2_isSign_49 (by decide) ?_
      exact z_iret (pc := 53) dX2_isSign_53 rfl rfl
    · refine z_iload_n (pc := 12) dX2_isSign_12 rfl rfl ?_
      refine z_bipush_59 (pc := 13) dX2_isSign_13 ?_
      refine z_icmp_eq (tgt := 48) (pc := 15) dX2_isSign_15 (by decide) (fun _ => ?_) (fun _ => ?_)
      · refine z_iconst_1 (pc := 48) dX2_isSign_48 ?_
        refine z_goto (tgt := 53) (pc := 49) dX2_isSign_49 (by decide) ?_
        exact z_iret (pc := 53) dX2_isSign_53 rfl rfl
      · refine z_iload_n (pc := 18) dX2_isSign_18 rfl rfl ?_
        refine z_bipush_43 (pc := 19) dX2_isSign_19 ?_
        refine z_icmp_eq (tgt := 48) (pc := 21) dX2_isSign_21 (by decide) (fun _ => ?_) (fun _ => ?_)
        · refine z_iconst_1 (pc := 48) dX2_isSign_48 ?_
          refine z_goto (tgt := 53) (pc := 49) dX2_isSign_49 (by decide) ?_
          exact z_iret (pc := 53) dX2_isSign_53 rfl rfl
        · refine z_iload_n (pc := 24) dX2_isSign_24 rfl rfl ?_
          refine z_bipush_45 (pc := 25) dX2_isSign_25 ?_
          refine z_icmp_eq (tgt := 48) (pc := 27) dX2_isSign_27 (by decide) (fun _ => ?_) (fun _ => ?_)
          · refine z_iconst_1 (pc := 48) dX2_isSign_48 ?_
            refine z_goto (tgt := 53) (pc := 49) dX2_isSign_49 (by decide) ?_
            exact z_iret (pc := 53) dX2_isSign_53 rfl rfl
          · refine z_iload_n (pc := 30) dX2_isSign_30 rfl rfl ?_
            refine z_bipush_42 (pc := 31) dX2_isSign_31 ?_
            refine z_icmp_eq (tgt := 48) (pc := 33) dX2_isSign_33 (by decide) (fun _ => ?_) (fun _ => ?_)
            · refine z_iconst_1 (pc := 48) dX2_isSign_48 ?_
              refine z_goto (tgt := 53) (pc := 49) dX2_isSign_49 (by decide) ?_
              exact z_iret (pc := 53) dX2_isSign_53 rfl rfl
            · refine z_iload_n (pc := 36) dX2_isSign_36 rfl rfl ?_
              refine z_bipush_60 (pc := 37) dX2_isSign_37 ?_
              refine z_icmp_eq (tgt := 48) (pc := 39) dX2_isSign_39 (by decide) (fun _ => ?_) (fun _ => ?_)
              · refine z_iconst_1 (pc := 48) dX2_isSign_48 ?_
                refine z_goto (tgt := 53) (pc := 49) dX2_isSign_49 (by decide) ?_
                exact z_iret (pc := 53) dX2_isSign_53 rfl rfl
              · refine z_iload_n (pc := 42) dX2_isSign_42 rfl rfl ?_
                refine z_bipush_61 (pc := 43) dX2_isSign_43 ?_
                refine z_icmp_ne (tgt := 52) (pc := 45) dX2_isSign_45 (by decide) (fun _ => ?_) (fun _ => ?_)
                · refine z_iconst_0 (pc := 52) dX2_isSign_52 ?_
                  exact z_iret (pc := 53) dX2_isSign_53 rfl rfl
                · refine z_iconst_1 (pc := 48) dX2_isSign_48 ?_
                  refine z_goto (tgt := 53) (pc := 49) dX2_isSign_49 (by decide) ?_
                  exact z_iret (pc := 53) dX2_isSign_53 rfl rfl
def fX2_letterAt  (a1 : Int32) (σ : z_Mem) : Option (Int32 × z_Mem) :=
  if a1 < 0 then (some ((-1 : Int32), σ)) else (if σ.1 5 2 ≤ a1 then (some ((-1 : Int32), σ)) else (if (160 : Int32) ≤ a1 then (some ((-1 : Int32), σ)) else (z_gd (z_in a1 160) (some (σ.1 6 (z_x a1), σ)))))
theorem kX2_letterAt   (a1 : Int32) (σ : z_Mem) (D : Nat) (hD : 1 ≤ D) : z_Call YC mX2_letterAt D z_i [zR 5, zI a1] σ (fX2_letterAt a1 σ) := by
  obtain ⟨D, rfl⟩ : ∃ E, D = E + 1 := ⟨D - 1, by omega⟩
  replace hD : 0 ≤ D := by omega
  refine z_entry (lv := [some (zR 5), some (zI a1)]) (by decide) rfl (Nat.le_of_ble_eq_true rfl) rfl ?_
  rw [fX2_letterAt]
  refine z_iload_n (pc := 0) dX2_letterAt_0 rfl rfl ?_
  refine z_if_lt (tgt := 28) (pc := 1) dX2_letterAt_1 (by decide) (fun _ => ?_) (fun _ => ?_)
  · refine z_iconst_m1 (pc := 28) dX2_letterAt_28 ?_
    exact z_iret (pc := 29) dX2_letterAt_29 rfl rfl
  · refine z_iload_n (pc := 4) dX2_letterAt_4 rfl rfl ?_
    refine z_aload_n (pc := 5) dX2_letterAt_5 rfl rfl ?_
    refine gfX2_2 (pc := 6) dX2_letterAt_6 yc_5 w_6_1 rfl ?_
    refine z_icmp_ge (tgt := 28) (pc := 9) dX2_letterAt_9 (by decide) (fun _ => ?_) (fun _ => ?_)
    · refine z_iconst_m1 (pc := 28) dX2_letterAt_28 ?_
      exact z_iret (pc := 29) dX2_letterAt_29 rfl rfl
    · refine z_iload_n (pc := 12) dX2_letterAt_12 rfl rfl ?_
      refine z_sipush_160 (pc := 13) dX2_letterAt_13 ?_
      refine z_icmp_ge (tgt := 28) (pc := 16) dX2_letterAt_16 (by decide) (fun _ => ?_) (fun _ => ?_)
      · refine z_iconst_m1 (pc := 28) dX2_letterAt_28 ?_
        exact z_iret (pc := 29) dX2_letterAt_29 rfl rfl
      · refine z_aload_n (pc := 19) dX2_letterAt_19 rfl rfl ?_
        refine gfX2_1 (pc := 20) dX2_letterAt_20 yc_5 w_2_21 rfl ?_
        refine z_iload_n (pc := 23) dX2_letterAt_23 rfl rfl ?_
        refine z_iald (pc := 24) dX2_letterAt_24 yc_6 ?_
        refine z_goto (tgt := 29) (pc := 25) dX2_letterAt_25 (by decide) ?_
        exact z_iret (pc := 29) dX2_letterAt_29 rfl rfl
def fX2_word  (a1 : Int32) (σ : z_Mem) : Option (Nat × z_Mem) :=
  if a1 = 0 then (some (1000 + 1, σ)) else if a1 = 1 then (some (1000 + 2, σ)) else if a1 = 2 then (some (1000 + 3, σ)) else if a1 = 3 then (some (1000 + 4, σ)) else if a1 = 4 then (some (1000 + 5, σ)) else if a1 = 5 then (some (1000 + 6, σ)) else if a1 = 6 then (some (1000 + 7, σ)) else if a1 = 7 then (some (1000 + 8, σ)) else if a1 = 8 then (some (1000 + 9, σ)) else if a1 = 9 then (some (1000 + 10, σ)) else if a1 = 10 then (some (1000 + 11, σ)) else some (1000 + 12, σ)
theorem kX2_word   (a1 : Int32) (σ : z_Mem) (D : Nat) (hD : 1 ≤ D) : z_Call YC mX2_word D z_r [zI a1] σ (fX2_word a1 σ) := by
  obtain ⟨D, rfl⟩ : ∃ E, D = E + 1 := ⟨D - 1, by omega⟩
  replace hD : 0 ≤ D := by omega
  refine z_entry (lv := [some (zI a1)]) (by decide) rfl (Nat.le_of_ble_eq_true rfl) rfl ?_
  rw [fX2_word]
  refine z_iload_n (pc := 0) dX2_word_0 rfl rfl ?_
  refine z_tswC (n := 0) (off := 59) (tgt := 60) (pc := 1) dX2_word_1 (by decide) (by decide) (by decide) (by decide) ?_ (fun h0 => ?_)
  · refine z_ldcS (i := 1) (pc := 60) dX2_word_60 (by decide) rfl rfl ?_
    exact z_aret (pc := 62) dX2_word_62 rfl ⟨_, rfl⟩
  · refine z_tswC (n := 1) (off := 62) (tgt := 63) (pc := 1) dX2_word_1 (by decide) (by decide) (by decide) (by decide) ?_ (fun h1 => ?_)
    · refine z_ldcS (i := 2) (pc := 63) dX2_word_63 (by decide) rfl rfl ?_
      exact z_aret (pc := 65) dX2_word_65 rfl ⟨_, rfl⟩
    · refine z_tswC (n := 2) (off := 65) (tgt := 66) (pc := 1) dX2_word_1 (by decide) (by decide) (by decide) (by decide) ?_ (fun h2 => ?_)
      · refine z_ldcS (i := 3) (pc := 66) dX2_word_66 (by decide) rfl rfl ?_
        exact z_aret (pc := 68) dX2_word_68 rfl ⟨_, rfl⟩
      · refine z_tswC (n := 3) (off := 68) (tgt := 69) (pc := 1) dX2_word_1 (by decide) (by decide) (by decide) (by decide) ?_ (fun h3 => ?_)
        · refine z_ldcS (i := 4) (pc := 69) dX2_word_69 (by decide) rfl rfl ?_
          exact z_aret (pc := 71) dX2_word_71 rfl ⟨_, rfl⟩
        · refine z_tswC (n := 4) (off := 71) (tgt := 72) (pc := 1) dX2_word_1 (by decide) (by decide) (by decide) (by decide) ?_ (fun h4 => ?_)
          · refine z_ldcS (i := 5) (pc := 72) dX2_word_72 (by decide) rfl rfl ?_
            exact z_aret (pc := 74) dX2_word_74 rfl ⟨_, rfl⟩
          · refine z_tswC (n := 5) (off := 74) (tgt := 75) (pc := 1) dX2_word_1 (by decide) (by decide) (by decide) (by decide) ?_ (fun h5 => ?_)
            · refine z_ldcS (i := 6) (pc := 75) dX2_word_75 (by decide) rfl rfl ?_
              exact z_aret (pc := 77) dX2_word_77 rfl ⟨_, rfl⟩
            · refine z_tswC (n := 6) (off := 77) (tgt := 78) (pc := 1) dX2_word_1 (by decide) (by decide) (by decide) (by decide) ?_ (fun h6 => ?_)
              · refine z_ldcS (i := 7) (pc := 78) dX2_word_78 (by decide) rfl rfl ?_
                exact z_aret (pc := 80) dX2_word_80 rfl ⟨_, rfl⟩
              · refine z_tswC (n := 7) (off := 80) (tgt := 81) (pc := 1) dX2_word_1 (by decide) (by decide) (by decide) (by decide) ?_ (fun h7 => ?_)
                · refine z_ldcS (i := 8) (pc := 81) dX2_word_81 (by decide) rfl rfl ?_
                  exact z_aret (pc := 83) dX2_word_83 rfl ⟨_, rfl⟩
                · refine z_tswC (n := 8) (off := 83) (tgt := 84) (pc := 1) dX2_word_1 (by decide) (by decide) (by decide) (by decide) ?_ (fun h8 => ?_)
                  · refine z_ldcS (i := 9) (pc := 84) dX2_word_84 (by decide) rfl rfl ?_
                    exact z_aret (pc := 86) dX2_word_86 rfl ⟨_, rfl⟩
                  · refine z_tswC (n := 9) (off := 86) (tgt := 87) (pc := 1) dX2_word_1 (by decide) (by decide) (by decide) (by decide) ?_ (fun h9 => ?_)
                    · refine z_ldcS (i := 10) (pc := 87) dX2_word_87 (by decide) rfl rfl ?_
                      exact z_aret (pc := 89) dX2_word_89 rfl ⟨_, rfl⟩
                    · refine z_tswC (n := 10) (off := 89) (tgt := 90) (pc := 1) dX2_word_1 (by decide) (by decide) (by decide) (by decide) ?_ (fun h10 => ?_)
                      · refine z_ldcS (i := 11) (pc := 90) dX2_word_90 (by decide) rfl rfl ?_
                        exact z_aret (pc := 92) dX2_word_92 rfl ⟨_, rfl⟩
                      · refine z_tswD (tgt := 93) (pc := 1) dX2_word_1 (by have t0 := lv_neT h0 (a := 0) rfl; have t1 := lv_neT h1 (a := 1) rfl; have t2 := lv_neT h2 (a := 2) rfl; have t3 := lv_neT h3 (a := 3) rfl; have t4 := lv_neT h4 (a := 4) rfl; have t5 := lv_neT h5 (a := 5) rfl; have t6 := lv_neT h6 (a := 6) rfl; have t7 := lv_neT h7 (a := 7) rfl; have t8 := lv_neT h8 (a := 8) rfl; have t9 := lv_neT h9 (a := 9) rfl; have t10 := lv_neT h10 (a := 10) rfl; omega) (by decide) ?_
                        refine z_ldcS (i := 12) (pc := 93) dX2_word_93 (by decide) rfl rfl ?_
                        exact z_aret (pc := 95) dX2_word_95 rfl ⟨_, rfl⟩
def fX2_isHere_23  : Nat → Nat → Int32 → z_Mem → Option (Int32 × z_Mem)
  | 0, _, _, _ => none
  | q + 1, a1, l2, σ => if σ.1 5 3 ≤ l2 then (some ((1 : Int32), σ)) else (if (160 : Int32) ≤ l2 then (some ((1 : Int32), σ)) else (z_gd (z_strI a1 (l2 - (σ.1 5 4))) (z_gd (z_in l2 160) (if z_sch a1 (l2 - (σ.1 5 4)) = σ.1 6 (z_x l2) then (fX2_isHere_23  q a1 (l2 + 1) σ) else (some ((0 : Int32), σ))))))
theorem kX2_isHere_23 (D : Nat)   (hD : 4 ≤ D) : ∀ (q : Nat) (a1 : Nat) (l2 : Int32)  (σ : z_Mem), z_Go YC mX2_isHere (D + 1) z_i 23 [some (zR 5), some (zR a1), some (zI l2)] [] σ (fX2_isHere_23 q a1 l2 σ) := by
  intro q
  induction q with
  | zero => intros; exact z_none
  | succ q ih =>
    intro a1 l2 σ
    rw [fX2_isHere_23]
    refine z_iload_n (pc := 23) dX2_isHere_23 rfl rfl ?_
    refine z_aload_n (pc := 24) dX2_isHere_24 rfl rfl ?_
    refine gfX2_3 (pc := 25) dX2_isHere_25 yc_5 w_6_6 rfl ?_
    refine z_icmp_ge (tgt := 65) (pc := 28) dX2_isHere_28 (by decide) (fun _ => ?_) (fun _ => ?_)
    · refine z_iconst_1 (pc := 65) dX2_isHere_65 ?_
      exact z_iret (pc := 66) dX2_isHere_66 rfl rfl
    · refine z_iload_n (pc := 31) dX2_isHere_31 rfl rfl ?_
      refine z_sipush_160 (pc := 32) dX2_isHere_32 ?_
      refine z_icmp_ge (tgt := 65) (pc := 35) dX2_isHere_35 (by decide) (fun _ => ?_) (fun _ => ?_)
      · refine z_iconst_1 (pc := 65) dX2_isHere_65 ?_
        exact z_iret (pc := 66) dX2_isHere_66 rfl rfl
      · refine z_aload_n (pc := 38) dX2_isHere_38 rfl rfl ?_
        refine z_iload_n (pc := 39) dX2_isHere_39 rfl rfl ?_
        refine z_aload_n (pc := 40) dX2_isHere_40 rfl rfl ?_
        refine gfX2_4 (pc := 41) dX2_isHere_41 yc_5 w_6_9 rfl ?_
        refine z_isub (pc := 44) dX2_isHere_44 ?_
        refine z_strch (pc := 45) dX2_isHere_45 w_7_23 (by omega) (Nat.le_of_ble_eq_true rfl) ?_
        refine z_aload_n (pc := 48) dX2_isHere_48 rfl rfl ?_
        refine gfX2_1 (pc := 49) dX2_isHere_49 yc_5 w_2_21 rfl ?_
        refine z_iload_n (pc := 52) dX2_isHere_52 rfl rfl ?_
        refine z_iald (pc := 53) dX2_isHere_53 yc_6 ?_
        refine z_icmp_eq (tgt := 59) (pc := 54) dX2_isHere_54 (by decide) (fun _ => ?_) (fun _ => ?_)
        · refine z_iinc (y := 1) (pc := 59) dX2_isHere_59 rfl (by decide) (Nat.le_of_ble_eq_true rfl) (z_so3_2 rfl) ?_
          refine z_goto (tgt := 23) (pc := 62) dX2_isHere_62 (by decide) ?_
          exact ih a1 (l2 + 1) σ
        · refine z_iconst_0 (pc := 57) dX2_isHere_57 ?_
          exact z_iret (pc := 58) dX2_isHere_58 rfl rfl
def fX2_isHere  (a1 : Nat) (σ : z_Mem) : Option (Int32 × z_Mem) :=
  z_gd (z_str a1) (if z_slen a1 = (σ.1 5 3) - (σ.1 5 4) then (fX2_isHere_23 z_FU a1 (σ.1 5 4) σ) else (some ((0 : Int32), σ)))
theorem kX2_isHere   (a1 : Nat) (σ : z_Mem) (D : Nat) (hD : 5 ≤ D) : z_Call YC mX2_isHere D z_i [zR 5, zR a1] σ (fX2_isHere a1 σ) := by
  obtain ⟨D, rfl⟩ : ∃ E, D = E + 1 := ⟨D - 1, by omega⟩
  replace hD : 4 ≤ D := by omega
  refine z_entry (lv := [some (zR 5), some (zR a1), none]) (by decide) rfl (Nat.le_of_ble_eq_true rfl) rfl ?_
  rw [fX2_isHere]
  refine z_aload_n (pc := 0) dX2_isHere_0 rfl rfl ?_
  refine z_strlen (pc := 1) dX2_isHere_1 w_7_22 (by omega) (Nat.le_of_ble_eq_true rfl) ?_
  refine z_aload_n (pc := 4) dX2_isHere_4 rfl rfl ?_
  refine gfX2_3 (pc := 5) dX2_isHere_5 yc_5 w_6_6 rfl ?_
  refine z_aload_n (pc := 8) dX2_isHere_8 rfl rfl ?_
  refine gfX2_4 (pc := 9) dX2_isHere_9 yc_5 w_6_9 rfl ?_
  refine z_isub (pc := 12) dX2_isHere_12 ?_
  refine z_icmp_eq (tgt := 18) (pc := 13) dX2_isHere_13 (by decide) (fun _ => ?_) (fun _ => ?_)
  · refine z_aload_n (pc := 18) dX2_isHere_18 rfl rfl ?_
    refine gfX2_4 (pc := 19) dX2_isHere_19 yc_5 w_6_9 rfl ?_
    refine z_istore_n (pc := 22) dX2_isHere_22 rfl (Nat.le_of_ble_eq_true rfl) (z_so3_2 rfl) ?_
    exact kX2_isHere_23 D  hD z_FU a1 (σ.1 5 4) σ
  · refine z_iconst_0 (pc := 16) dX2_isHere_16 ?_
    exact z_iret (pc := 17) dX2_isHere_17 rfl rfl
def fX2_readDigits_j67   (σ : z_Mem) : Option (Unit × z_Mem) :=
  if (σ.1 5 3) - (σ.1 5 4) ≤ (4 : Int32) then (z_st (z_pt σ 5 5 (2 : Int32)) (fun s2 => some ((), s2))) else (z_st (z_pt σ 5 5 (1 : Int32)) (fun s3 => some ((), s3)))
theorem kX2_readDigits_j67 (D : Nat)   (hD : 1 ≤ D)   (σ : z_Mem) : z_Go YC mX2_readDigits (D + 1) z_u 67 [some (zR 5), none] [] σ (fX2_readDigits_j67 σ) := by
  rw [fX2_readDigits_j67]
  refine z_aload_n (pc := 67) dX2_readDigits_67 rfl rfl ?_
  refine z_aload_n (pc := 68) dX2_readDigits_68 rfl rfl ?_
  refine gfX2_3 (pc := 69) dX2_readDigits_69 yc_5 w_6_6 rfl ?_
  refine z_aload_n (pc := 72) dX2_readDigits_72 rfl rfl ?_
  refine gfX2_4 (pc := 73) dX2_readDigits_73 yc_5 w_6_9 rfl ?_
  refine z_isub (pc := 76) dX2_readDigits_76 ?_
  refine z_iconst_4 (pc := 77) dX2_readDigits_77 ?_
  refine z_icmp_le (tgt := 85) (pc := 78) dX2_readDigits_78 (by decide) (fun _ => ?_) (fun _ => ?_)
  · refine z_iconst_2 (pc := 85) dX2_readDigits_85 ?_
    refine pfX2_5 (pc := 86) dX2_readDigits_86 yc_5 w_6_7 rfl ?_
    refine z_let (fun s2 => ?_)
    exact z_vret (pc := 89) dX2_readDigits_89 rfl
  · refine z_iconst_1 (pc := 81) dX2_readDigits_81 ?_
    refine z_goto (tgt := 86) (pc := 82) dX2_readDigits_82 (by decide) ?_
    refine pfX2_5 (pc := 86) dX2_readDigits_86 yc_5 w_6_7 rfl ?_
    refine z_let (fun s3 => ?_)
    exact z_vret (pc := 89) dX2_readDigits_89 rfl
def fX2_readDigits_7  : Nat → Int32 → z_Mem → Option (Unit × z_Mem)
  | 0, _, _ => none
  | q + 1, l1, σ => if (160 : Int32) ≤ l1 then (fX2_readDigits_j67 σ) else (z_bd (fX2_letterAt (σ.1 5 3) σ) (fun r4 s4 => z_bd (fX2_isDigit r4 s4) (fun r5 s5 => if r5 = 0 then (fX2_readDigits_j67 s5) else (z_bd (fX2_letterAt (s5.1 5 3) s5) (fun r6 s6 => z_st (z_pt s6 5 6 ((((s5.1 5 6) * (10 : Int32)) + r6) - (48 : Int32))) (fun s7 => z_st (z_pt s7 5 3 ((s7.1 5 3) + (1 : Int32))) (fun s8 => fX2_readDigits_7  q (l1 + 1) s8)))))))
theorem kX2_readDigits_7 (D : Nat)   (hD : 1 ≤ D) : ∀ (q : Nat) (l1 : Int32)  (σ : z_Mem), z_Go YC mX2_readDigits (D + 1) z_u 7 [some (zR 5), some (zI l1)] [] σ (fX2_readDigits_7 q l1 σ) := by
  intro q
  induction q with
  | zero => intros; exact z_none
  | succ q ih =>
    intro l1 σ
    rw [fX2_readDigits_7]
    refine z_iload_n (pc := 7) dX2_readDigits_7 rfl rfl ?_
    refine z_sipush_160 (pc := 8) dX2_readDigits_8 ?_
    refine z_icmp_ge (tgt := 67) (pc := 11) dX2_readDigits_11 (by decide) (fun _ => ?_) (fun _ => ?_)
    · exact z_weak (lv' := [some (zR 5), none]) (z_sub_ok ⟨rfl, trivial⟩) (kX2_readDigits_j67 D  hD  σ)
    · refine z_aload_n (pc := 14) dX2_readDigits_14 rfl rfl ?_
      refine z_aload_n (pc := 15) dX2_readDigits_15 rfl rfl ?_
      refine gfX2_3 (pc := 16) dX2_readDigits_16 yc_5 w_6_6 rfl ?_
      refine z_V1i (pc := 19) dX2_readDigits_19 lVX2_84 yc_5 rfl (Nat.le_of_ble_eq_true rfl) (kX2_letterAt (σ.1 5 3) σ D (by omega)) (fun r4 s4 => ?_)
      refine z_S1i (pc := 22) dX2_readDigits_22 lSX2_88 (Nat.le_of_ble_eq_true rfl) (kX2_isDigit r4 s4 D (by omega)) (fun r5 s5 => ?_)
      refine z_if_eq (tgt := 67) (pc := 25) dX2_readDigits_25 (by decide) (fun _ => ?_) (fun _ => ?_)
      · exact z_weak (lv' := [some (zR 5), none]) (z_sub_ok ⟨rfl, trivial⟩) (kX2_readDigits_j67 D  hD  s5)
      · refine z_aload_n (pc := 28) dX2_readDigits_28 rfl rfl ?_
        refine z_aload_n (pc := 29) dX2_readDigits_29 rfl rfl ?_
        refine gfX2_6 (pc := 30) dX2_readDigits_30 yc_5 w_7_7 rfl ?_
        refine z_bipush_10 (pc := 33) dX2_readDigits_33 ?_
        refine z_imul (pc := 35) dX2_readDigits_35 ?_
        refine z_aload_n (pc := 36) dX2_readDigits_36 rfl rfl ?_
        refine z_aload_n (pc := 37) dX2_readDigits_37 rfl rfl ?_
        refine gfX2_3 (pc := 38) dX2_readDigits_38 yc_5 w_6_6 rfl ?_
        refine z_V1i (pc := 41) dX2_readDigits_41 lVX2_84 yc_5 rfl (Nat.le_of_ble_eq_true rfl) (kX2_letterAt (s5.1 5 3) s5 D (by omega)) (fun r6 s6 => ?_)
        refine z_iadd (pc := 44) dX2_readDigits_44 ?_
        refine z_bipush_48 (pc := 45) dX2_readDigits_45 ?_
        refine z_isub (pc := 47) dX2_readDigits_47 ?_
        refine pfX2_6 (pc := 48) dX2_readDigits_48 yc_5 w_7_7 rfl ?_
        refine z_let (fun s7 => ?_)
        refine z_aload_n (pc := 51) dX2_readDigits_51 rfl rfl ?_
        refine z_dup (pc := 52) dX2_readDigits_52 rfl ?_
        refine gfX2_3 (pc := 53) dX2_readDigits_53 yc_5 w_6_6 rfl ?_
        refine z_iconst_1 (pc := 56) dX2_readDigits_56 ?_
        refine z_iadd (pc := 57) dX2_readDigits_57 ?_
        refine pfX2_3 (pc := 58) dX2_readDigits_58 yc_5 w_6_6 rfl ?_
        refine z_let (fun s8 => ?_)
        refine z_iinc (y := 1) (pc := 61) dX2_readDigits_61 rfl (by decide) (Nat.le_of_ble_eq_true rfl) (z_so2_1 rfl) ?_
        refine z_goto (tgt := 7) (pc := 64) dX2_readDigits_64 (by decide) ?_
        exact ih (l1 + 1) s8
def fX2_readDigits   (σ : z_Mem) : Option (Unit × z_Mem) :=
  z_st (z_pt σ 5 6 (0 : Int32)) (fun s1 => fX2_readDigits_7 z_FU (0 : Int32) s1)
theorem kX2_readDigits    (σ : z_Mem) (D : Nat) (hD : 2 ≤ D) : z_Call YC mX2_readDigits D z_u [zR 5] σ (fX2_readDigits σ) := by
  obtain ⟨D, rfl⟩ : ∃ E, D = E + 1 := ⟨D - 1, by omega⟩
  replace hD : 1 ≤ D := by omega
  refine z_entry (lv := [some (zR 5), none]) (by decide) rfl (Nat.le_of_ble_eq_true rfl) rfl ?_
  rw [fX2_readDigits]
  refine z_aload_n (pc := 0) dX2_readDigits_0 rfl rfl ?_
  refine z_iconst_0 (pc := 1) dX2_readDigits_1 ?_
  refine pfX2_6 (pc := 2) dX2_readDigits_2 yc_5 w_7_7 rfl ?_
  refine z_let (fun s1 => ?_)
  refine z_iconst_0 (pc := 5) dX2_readDigits_5 ?_
  refine z_istore_n (pc := 6) dX2_readDigits_6 rfl (Nat.le_of_ble_eq_true rfl) (z_so2_1 rfl) ?_
  exact kX2_readDigits_7 D  hD z_FU (0 : Int32) s1
def fX2_readWord_46  : Nat → Int32 → z_Mem → Option (Unit × z_Mem)
  | 0, _, _ => none
  | q + 1, l1, σ => if (12 : Int32) ≤ l1 then (some ((), σ)) else (if σ.1 5 5 = (1 : Int32) then (z_bd (fX2_word l1 σ) (fun r2 s2 => z_bd (fX2_isHere r2 s2) (fun r3 s3 => if r3 = 0 then (fX2_readWord_46  q (l1 + 1) s3) else (z_st (z_pt s3 5 5 ((256 : Int32) + l1)) (fun s4 => fX2_readWord_46  q (l1 + 1) s4))))) else (some ((), σ)))
theorem kX2_readWord_46 (D : Nat)   (hD : 5 ≤ D) : ∀ (q : Nat) (l1 : Int32)  (σ : z_Mem), z_Go YC mX2_readWord (D + 1) z_u 46 [some (zR 5), some (zI l1)] [] σ (fX2_readWord_46 q l1 σ) := by
  intro q
  induction q with
  | zero => intros; exact z_none
  | succ q ih =>
    intro l1 σ
    rw [fX2_readWord_46]
    refine z_iload_n (pc := 46) dX2_readWord_46 rfl rfl ?_
    refine z_bipush_12 (pc := 47) dX2_readWord_47 ?_
    refine z_icmp_ge (tgt := 86) (pc := 49) dX2_readWord_49 (by decide) (fun _ => ?_) (fun _ => ?_)
    · exact z_vret (pc := 86) dX2_readWord_86 rfl
    · refine z_aload_n (pc := 52) dX2_readWord_52 rfl rfl ?_
      refine gfX2_5 (pc := 53) dX2_readWord_53 yc_5 w_6_7 rfl ?_
      refine z_iconst_1 (pc := 56) dX2_readWord_56 ?_
      refine z_icmp_ne (tgt := 86) (pc := 57) dX2_readWord_57 (by decide) (fun _ => ?_) (fun _ => ?_)
      · exact z_vret (pc := 86) dX2_readWord_86 rfl
      · refine z_aload_n (pc := 60) dX2_readWord_60 rfl rfl ?_
        refine z_iload_n (pc := 61) dX2_readWord_61 rfl rfl ?_
        refine z_S1r (pc := 62) dX2_readWord_62 lSX2_103 (Nat.le_of_ble_eq_true rfl) (kX2_word l1 σ D (by omega)) (fun r2 s2 => ?_)
        refine z_V1i (pc := 65) dX2_readWord_65 lVX2_107 yc_5 rfl (Nat.le_of_ble_eq_true rfl) (kX2_isHere r2 s2 D (by omega)) (fun r3 s3 => ?_)
        refine z_if_eq (tgt := 80) (pc := 68) dX2_readWord_68 (by decide) (fun _ => ?_) (fun _ => ?_)
        · refine z_iinc (y := 1) (pc := 80) dX2_readWord_80 rfl (by decide) (Nat.le_of_ble_eq_true rfl) (z_so2_1 rfl) ?_
          refine z_goto (tgt := 46) (pc := 83) dX2_readWord_83 (by decide) ?_
          exact ih (l1 + 1) s3
        · refine z_aload_n (pc := 71) dX2_readWord_71 rfl rfl ?_
          refine z_sipush_256 (pc := 72) dX2_readWord_72 ?_
          refine z_iload_n (pc := 75) dX2_readWord_75 rfl rfl ?_
          refine z_iadd (pc := 76) dX2_readWord_76 ?_
          refine pfX2_5 (pc := 77) dX2_readWord_77 yc_5 w_6_7 rfl ?_
          refine z_let (fun s4 => ?_)
          refine z_iinc (y := 1) (pc := 80) dX2_readWord_80 rfl (by decide) (Nat.le_of_ble_eq_true rfl) (z_so2_1 rfl) ?_
          refine z_goto (tgt := 46) (pc := 83) dX2_readWord_83 (by decide) ?_
          exact ih (l1 + 1) s4
def fX2_readWord_j39   (σ : z_Mem) : Option (Unit × z_Mem) :=
  z_st (z_pt σ 5 5 (1 : Int32)) (fun s1 => fX2_readWord_46 z_FU (0 : Int32) s1)
theorem kX2_readWord_j39 (D : Nat)   (hD : 5 ≤ D)   (σ : z_Mem) : z_Go YC mX2_readWord (D + 1) z_u 39 [some (zR 5), none] [] σ (fX2_readWord_j39 σ) := by
  rw [fX2_readWord_j39]
  refine z_aload_n (pc := 39) dX2_readWord_39 rfl rfl ?_
  refine z_iconst_1 (pc := 40) dX2_readWord_40 ?_
  refine pfX2_5 (pc := 41) dX2_readWord_41 yc_5 w_6_7 rfl ?_
  refine z_let (fun s1 => ?_)
  refine z_iconst_0 (pc := 44) dX2_readWord_44 ?_
  refine z_istore_n (pc := 45) dX2_readWord_45 rfl (Nat.le_of_ble_eq_true rfl) (z_so2_1 rfl) ?_
  exact kX2_readWord_46 D  hD z_FU (0 : Int32) s1
def fX2_readWord_2  : Nat → Int32 → z_Mem → Option (Unit × z_Mem)
  | 0, _, _ => none
  | q + 1, l1, σ => if (160 : Int32) ≤ l1 then (fX2_readWord_j39 σ) else (z_bd (fX2_letterAt (σ.1 5 3) σ) (fun r5 s5 => z_bd (fX2_isSmall r5 s5) (fun r6 s6 => if r6 = 0 then (fX2_readWord_j39 s6) else (z_st (z_pt s6 5 3 ((s6.1 5 3) + (1 : Int32))) (fun s7 => fX2_readWord_2  q (l1 + 1) s7)))))
theorem kX2_readWord_2 (D : Nat)   (hD : 5 ≤ D) : ∀ (q : Nat) (l1 : Int32)  (σ : z_Mem), z_Go YC mX2_readWord (D + 1) z_u 2 [some (zR 5), some (zI l1)] [] σ (fX2_readWord_2 q l1 σ) := by
  intro q
  induction q with
  | zero => intros; exact z_none
  | succ q ih =>
    intro l1 σ
    rw [fX2_readWord_2]
    refine z_iload_n (pc := 2) dX2_readWord_2 rfl rfl ?_
    refine z_sipush_160 (pc := 3) dX2_readWord_3 ?_
    refine z_icmp_ge (tgt := 39) (pc := 6) dX2_readWord_6 (by decide) (fun _ => ?_) (fun _ => ?_)
    · exact z_weak (lv' := [some (zR 5), none]) (z_sub_ok ⟨rfl, trivial⟩) (kX2_readWord_j39 D  hD  σ)
    · refine z_aload_n (pc := 9) dX2_readWord_9 rfl rfl ?_
      refine z_aload_n (pc := 10) dX2_readWord_10 rfl rfl ?_
      refine gfX2_3 (pc := 11) dX2_readWord_11 yc_5 w_6_6 rfl ?_
      refine z_V1i (pc := 14) dX2_readWord_14 lVX2_84 yc_5 rfl (Nat.le_of_ble_eq_true rfl) (kX2_letterAt (σ.1 5 3) σ D (by omega)) (fun r5 s5 => ?_)
      refine z_S1i (pc := 17) dX2_readWord_17 lSX2_94 (Nat.le_of_ble_eq_true rfl) (kX2_isSmall r5 s5 D (by omega)) (fun r6 s6 => ?_)
      refine z_if_eq (tgt := 39) (pc := 20) dX2_readWord_20 (by decide) (fun _ => ?_) (fun _ => ?_)
      · exact z_weak (lv' := [some (zR 5), none]) (z_sub_ok ⟨rfl, trivial⟩) (kX2_readWord_j39 D  hD  s6)
      · refine z_aload_n (pc := 23) dX2_readWord_23 rfl rfl ?_
        refine z_dup (pc := 24) dX2_readWord_24 rfl ?_
        refine gfX2_3 (pc := 25) dX2_readWord_25 yc_5 w_6_6 rfl ?_
        refine z_iconst_1 (pc := 28) dX2_readWord_28 ?_
        refine z_iadd (pc := 29) dX2_readWord_29 ?_
        refine pfX2_3 (pc := 30) dX2_readWord_30 yc_5 w_6_6 rfl ?_
        refine z_let (fun s7 => ?_)
        refine z_iinc (y := 1) (pc := 33) dX2_readWord_33 rfl (by decide) (Nat.le_of_ble_eq_true rfl) (z_so2_1 rfl) ?_
        refine z_goto (tgt := 2) (pc := 36) dX2_readWord_36 (by decide) ?_
        exact ih (l1 + 1) s7
def fX2_readWord   (σ : z_Mem) : Option (Unit × z_Mem) :=
  fX2_readWord_2 z_FU (0 : Int32) σ
theorem kX2_readWord    (σ : z_Mem) (D : Nat) (hD : 6 ≤ D) : z_Call YC mX2_readWord D z_u [zR 5] σ (fX2_readWord σ) := by
  obtain ⟨D, rfl⟩ : ∃ E, D = E + 1 := ⟨D - 1, by omega⟩
  replace hD : 5 ≤ D := by omega
  refine z_entry (lv := [some (zR 5), none]) (by decide) rfl (Nat.le_of_ble_eq_true rfl) rfl ?_
  rw [fX2_readWord]
  refine z_iconst_0 (pc := 0) dX2_readWord_0 ?_
  refine z_istore_n (pc := 1) dX2_readWord_1 rfl (Nat.le_of_ble_eq_true rfl) (z_so2_1 rfl) ?_
  exact kX2_readWord_2 D  hD z_FU (0 : Int32) σ
def fX2_advance_j51   (σ : z_Mem) : Option (Unit × z_Mem) :=
  z_st (z_pt σ 5 4 (σ.1 5 3)) (fun s1 => z_bd (fX2_letterAt (s1.1 5 3) s1) (fun r2 s2 => if r2 = (-1 : Int32) then (z_st (z_pt s2 5 5 (0 : Int32)) (fun s12 => some ((), s12))) else (z_bd (fX2_isDigit r2 s2) (fun r3 s3 => if r3 = 0 then (z_bd (fX2_isSmall r2 s3) (fun r4 s4 => if r4 = 0 then (z_bd (fX2_isSign r2 s4) (fun r5 s5 => if r5 = 0 then (z_st (z_pt s5 5 5 (1 : Int32)) (fun s6 => z_st (z_pt s6 5 3 ((s6.1 5 3) + (1 : Int32))) (fun s7 => some ((), s7)))) else (z_st (z_pt s5 5 5 r2) (fun s8 => z_st (z_pt s8 5 3 ((s8.1 5 3) + (1 : Int32))) (fun s9 => some ((), s9)))))) else (z_bd (fX2_readWord s4) (fun _ s10 => some ((), s10))))) else (z_bd (fX2_readDigits s3) (fun _ s11 => some ((), s11)))))))
theorem kX2_advance_j51 (D : Nat)   (hD : 6 ≤ D)   (σ : z_Mem) : z_Go YC mX2_advance (D + 1) z_u 51 [some (zR 5), none] [] σ (fX2_advance_j51 σ) := by
  rw [fX2_advance_j51]
  refine z_aload_n (pc := 51) dX2_advance_51 rfl rfl ?_
  refine z_aload_n (pc := 52) dX2_advance_52 rfl rfl ?_
  refine gfX2_3 (pc := 53) dX2_advance_53 yc_5 w_6_6 rfl ?_
  refine pfX2_4 (pc := 56) dX2_advance_56 yc_5 w_6_9 rfl ?_
  refine z_let (fun s1 => ?_)
  refine z_aload_n (pc := 59) dX2_advance_59 rfl rfl ?_
  refine z_aload_n (pc := 60) dX2_advance_60 rfl rfl ?_
  refine gfX2_3 (pc := 61) dX2_advance_61 yc_5 w_6_6 rfl ?_
  refine z_V1i (pc := 64) dX2_advance_64 lVX2_84 yc_5 rfl (Nat.le_of_ble_eq_true rfl) (kX2_letterAt (s1.1 5 3) s1 D (by omega)) (fun r2 s2 => ?_)
  refine z_istore_n (pc := 67) dX2_advance_67 rfl (Nat.le_of_ble_eq_true rfl) (z_so2_1 rfl) ?_
  refine z_iload_n (pc := 68) dX2_advance_68 rfl rfl ?_
  refine z_iconst_m1 (pc := 69) dX2_advance_69 ?_
  refine z_icmp_ne (tgt := 81) (pc := 70) dX2_advance_70 (by decide) (fun _ => ?_) (fun _ => ?_)
  · refine z_iload_n (pc := 81) dX2_advance_81 rfl rfl ?_
    refine z_S1i (pc := 82) dX2_advance_82 lSX2_88 (Nat.le_of_ble_eq_true rfl) (kX2_isDigit r2 s2 D (by omega)) (fun r3 s3 => ?_)
    refine z_if_eq (tgt := 95) (pc := 85) dX2_advance_85 (by decide) (fun _ => ?_) (fun _ => ?_)
    · refine z_iload_n (pc := 95) dX2_advance_95 rfl rfl ?_
      refine z_S1i (pc := 96) dX2_advance_96 lSX2_94 (Nat.le_of_ble_eq_true rfl) (kX2_isSmall r2 s3 D (by omega)) (fun r4 s4 => ?_)
      refine z_if_eq (tgt := 109) (pc := 99) dX2_advance_99 (by decide) (fun _ => ?_) (fun _ => ?_)
      · refine z_aload_n (pc := 109) dX2_advance_109 rfl rfl ?_
        refine z_iload_n (pc := 110) dX2_advance_110 rfl rfl ?_
        refine z_S1i (pc := 111) dX2_advance_111 lSX2_100 (Nat.le_of_ble_eq_true rfl) (kX2_isSign r2 s4 D (by omega)) (fun r5 s5 => ?_)
        refine z_if_eq (tgt := 121) (pc := 114) dX2_advance_114 (by decide) (fun _ => ?_) (fun _ => ?_)
        · refine z_iconst_1 (pc := 121) dX2_advance_121 ?_
          refine pfX2_5 (pc := 122) dX2_advance_122 yc_5 w_6_7 rfl ?_
          refine z_let (fun s6 => ?_)
          refine z_aload_n (pc := 125) dX2_advance_125 rfl rfl ?_
          refine z_dup (pc := 126) dX2_advance_126 rfl ?_
          refine gfX2_3 (pc := 127) dX2_advance_127 yc_5 w_6_6 rfl ?_
          refine z_iconst_1 (pc := 130) dX2_advance_130 ?_
          refine z_iadd (pc := 131) dX2_advance_131 ?_
          refine pfX2_3 (pc := 132) dX2_advance_132 yc_5 w_6_6 rfl ?_
          refine z_let (fun s7 => ?_)
          exact z_vret (pc := 135) dX2_advance_135 rfl
        · refine z_iload_n (pc := 117) dX2_advance_117 rfl rfl ?_
          refine z_goto (tgt := 122) (pc := 118) dX2_advance_118 (by decide) ?_
          refine pfX2_5 (pc := 122) dX2_advance_122 yc_5 w_6_7 rfl ?_
          refine z_let (fun s8 => ?_)
          refine z_aload_n (pc := 125) dX2_advance_125 rfl rfl ?_
          refine z_dup (pc := 126) dX2_advance_126 rfl ?_
          refine gfX2_3 (pc := 127) dX2_advance_127 yc_5 w_6_6 rfl ?_
          refine z_iconst_1 (pc := 130) dX2_advance_130 ?_
          refine z_iadd (pc := 131) dX2_advance_131 ?_
          refine pfX2_3 (pc := 132) dX2_advance_132 yc_5 w_6_6 rfl ?_
          refine z_let (fun s9 => ?_)
          exact z_vret (pc := 135) dX2_advance_135 rfl
      · refine z_aload_n (pc := 102) dX2_advance_102 rfl rfl ?_
        refine z_V0u (pc := 103) dX2_advance_103 lVX2_97 yc_5 rfl (Nat.le_of_ble_eq_true rfl) (kX2_readWord s4 D (by omega)) (fun _ s10 => ?_)
        refine z_goto (tgt := 135) (pc := 106) dX2_advance_106 (by decide) ?_
        exact z_vret (pc := 135) dX2_advance_135 rfl
    · refine z_aload_n (pc := 88) dX2_advance_88 rfl rfl ?_
      refine z_V0u (pc := 89) dX2_advance_89 lVX2_91 yc_5 rfl (Nat.le_of_ble_eq_true rfl) (kX2_readDigits s3 D (by omega)) (fun _ s11 => ?_)
      refine z_goto (tgt := 135) (pc := 92) dX2_advance_92 (by decide) ?_
      exact z_vret (pc := 135) dX2_advance_135 rfl
  · refine z_aload_n (pc := 73) dX2_advance_73 rfl rfl ?_
    refine z_iconst_0 (pc := 74) dX2_advance_74 ?_
    refine pfX2_5 (pc := 75) dX2_advance_75 yc_5 w_6_7 rfl ?_
    refine z_let (fun s12 => ?_)
    refine z_goto (tgt := 135) (pc := 78) dX2_advance_78 (by decide) ?_
    exact z_vret (pc := 135) dX2_advance_135 rfl
def fX2_advance_2  : Nat → Int32 → z_Mem → Option (Unit × z_Mem)
  | 0, _, _ => none
  | q + 1, l1, σ => if (160 : Int32) ≤ l1 then (fX2_advance_j51 σ) else (z_bd (fX2_letterAt (σ.1 5 3) σ) (fun r13 s13 => if r13 = (32 : Int32) then (z_st (z_pt s13 5 3 ((s13.1 5 3) + (1 : Int32))) (fun s14 => fX2_advance_2  q (l1 + 1) s14)) else (z_bd (fX2_letterAt (s13.1 5 3) s13) (fun r15 s15 => if r15 = (10 : Int32) then (z_st (z_pt s15 5 3 ((s15.1 5 3) + (1 : Int32))) (fun s16 => fX2_advance_2  q (l1 + 1) s16)) else (fX2_advance_j51 s15)))))
theorem kX2_advance_2 (D : Nat)   (hD : 6 ≤ D) : ∀ (q : Nat) (l1 : Int32)  (σ : z_Mem), z_Go YC mX2_advance (D + 1) z_u 2 [some (zR 5), some (zI l1)] [] σ (fX2_advance_2 q l1 σ) := by
  intro q
  induction q with
  | zero => intros; exact z_none
  | succ q ih =>
    intro l1 σ
    rw [fX2_advance_2]
    refine z_iload_n (pc := 2) dX2_advance_2 rfl rfl ?_
    refine z_sipush_160 (pc := 3) dX2_advance_3 ?_
    refine z_icmp_ge (tgt := 51) (pc := 6) dX2_advance_6 (by decide) (fun _ => ?_) (fun _ => ?_)
    · exact z_weak (lv' := [some (zR 5), none]) (z_sub_ok ⟨rfl, trivial⟩) (kX2_advance_j51 D  hD  σ)
    · refine z_aload_n (pc := 9) dX2_advance_9 rfl rfl ?_
      refine z_aload_n (pc := 10) dX2_advance_10 rfl rfl ?_
      refine gfX2_3 (pc := 11) dX2_advance_11 yc_5 w_6_6 rfl ?_
      refine z_V1i (pc := 14) dX2_advance_14 lVX2_84 yc_5 rfl (Nat.le_of_ble_eq_true rfl) (kX2_letterAt (σ.1 5 3) σ D (by omega)) (fun r13 s13 => ?_)
      refine z_bipush_32 (pc := 17) dX2_advance_17 ?_
      refine z_icmp_eq (tgt := 35) (pc := 19) dX2_advance_19 (by decide) (fun _ => ?_) (fun _ => ?_)
      · refine z_aload_n (pc := 35) dX2_advance_35 rfl rfl ?_
        refine z_dup (pc := 36) dX2_advance_36 rfl ?_
        refine gfX2_3 (pc := 37) dX2_advance_37 yc_5 w_6_6 rfl ?_
        refine z_iconst_1 (pc := 40) dX2_advance_40 ?_
        refine z_iadd (pc := 41) dX2_advance_41 ?_
        refine pfX2_3 (pc := 42) dX2_advance_42 yc_5 w_6_6 rfl ?_
        refine z_let (fun s14 => ?_)
        refine z_iinc (y := 1) (pc := 45) dX2_advance_45 rfl (by decide) (Nat.le_of_ble_eq_true rfl) (z_so2_1 rfl) ?_
        refine z_goto (tgt := 2) (pc := 48) dX2_advance_48 (by decide) ?_
        exact ih (l1 + 1) s14
      · refine z_aload_n (pc := 22) dX2_advance_22 rfl rfl ?_
        refine z_aload_n (pc := 23) dX2_advance_23 rfl rfl ?_
        refine gfX2_3 (pc := 24) dX2_advance_24 yc_5 w_6_6 rfl ?_
        refine z_V1i (pc := 27) dX2_advance_27 lVX2_84 yc_5 rfl (Nat.le_of_ble_eq_true rfl) (kX2_letterAt (s13.1 5 3) s13 D (by omega)) (fun r15 s15 => ?_)
        refine z_bipush_10 (pc := 30) dX2_advance_30 ?_
        refine z_icmp_ne (tgt := 51) (pc := 32) dX2_advance_32 (by decide) (fun _ => ?_) (fun _ => ?_)
        · exact z_weak (lv' := [some (zR 5), none]) (z_sub_ok ⟨rfl, trivial⟩) (kX2_advance_j51 D  hD  s15)
        · refine z_aload_n (pc := 35) dX2_advance_35 rfl rfl ?_
          refine z_dup (pc := 36) dX2_advance_36 rfl ?_
          refine gfX2_3 (pc := 37) dX2_advance_37 yc_5 w_6_6 rfl ?_
          refine z_iconst_1 (pc := 40) dX2_advance_40 ?_
          refine z_iadd (pc := 41) dX2_advance_41 ?_
          refine pfX2_3 (pc := 42) dX2_advance_42 yc_5 w_6_6 rfl ?_
          refine z_let (fun s16 => ?_)
          refine z_iinc (y := 1) (pc := 45) dX2_advance_45 rfl (by decide) (Nat.le_of_ble_eq_true rfl) (z_so2_1 rfl) ?_
          refine z_goto (tgt := 2) (pc := 48) dX2_advance_48 (by decide) ?_
          exact ih (l1 + 1) s16
def fX2_advance   (σ : z_Mem) : Option (Unit × z_Mem) :=
  fX2_advance_2 z_FU (0 : Int32) σ
theorem kX2_advance    (σ : z_Mem) (D : Nat) (hD : 7 ≤ D) : z_Call YC mX2_advance D z_u [zR 5] σ (fX2_advance σ) := by
  obtain ⟨D, rfl⟩ : ∃ E, D = E + 1 := ⟨D - 1, by omega⟩
  replace hD : 6 ≤ D := by omega
  refine z_entry (lv := [some (zR 5), none]) (by decide) rfl (Nat.le_of_ble_eq_true rfl) rfl ?_
  rw [fX2_advance]
  refine z_iconst_0 (pc := 0) dX2_advance_0 ?_
  refine z_istore_n (pc := 1) dX2_advance_1 rfl (Nat.le_of_ble_eq_true rfl) (z_so2_1 rfl) ?_
  exact kX2_advance_2 D  hD z_FU (0 : Int32) σ
