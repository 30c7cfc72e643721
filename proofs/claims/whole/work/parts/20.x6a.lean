def fX6_in  (a1 : Int64) (a2 : Int64) (a3 : Int64) (σ : z_Mem) : Option (Int32 × z_Mem) :=
  if lg_cmp a1 a2 < 0 then (some ((0 : Int32), σ)) else (if 0 < lg_cmp a1 a3 then (some ((0 : Int32), σ)) else (some ((1 : Int32), σ)))
theorem kX6_in   (a1 : Int64) (a2 : Int64) (a3 : Int64) (σ : z_Mem) (D : Nat) (hD : 1 ≤ D) : z_Call YM mX6_in D z_i [zL a1, zL a2, zL a3] σ (fX6_in a1 a2 a3 σ) := by
  obtain ⟨D, rfl⟩ : ∃ E, D = E + 1 := ⟨D - 1, by omega⟩
  replace hD : 0 ≤ D := by omega
  refine z_entry (lv := [some (zL a1), none, some (zL a2), none, some (zL a3), none]) (by decide) rfl (Nat.le_of_ble_eq_true rfl) rfl ?_
  rw [fX6_in]
  refine z_lload_n (pc := 0) dX6_in_0 rfl rfl ?_
  refine z_lload_n (pc := 1) dX6_in_1 rfl rfl ?_
  refine z_lcmp (pc := 2) dX6_in_2 ?_
  refine z_if_lt (tgt := 17) (pc := 3) dX6_in_3 (by decide) (fun _ => ?_) (fun _ => ?_)
  · refine z_iconst_0 (pc := 17) dX6_in_17 ?_
    exact z_iret (pc := 18) dX6_in_18 rfl rfl
  · refine z_lload_n (pc := 6) dX6_in_6 rfl rfl ?_
    refine z_lload (pc := 7) dX6_in_7 rfl ?_
    refine z_lcmp (pc := 9) dX6_in_9 ?_
    refine z_if_gt (tgt := 17) (pc := 10) dX6_in_10 (by decide) (fun _ => ?_) (fun _ => ?_)
    · refine z_iconst_0 (pc := 17) dX6_in_17 ?_
      exact z_iret (pc := 18) dX6_in_18 rfl rfl
    · refine z_iconst_1 (pc := 13) dX6_in_13 ?_
      refine z_goto (tgt := 18) (pc := 14) dX6_in_14 (by decide) ?_
      exact z_iret (pc := 18) dX6_in_18 rfl rfl
def fX6_within  (a1 : Int32) (a2 : Int32) (a3 : Int32) (σ : z_Mem) : Option (Int32 × z_Mem) :=
  if a2 ≤ a1 then (if a1 ≤ a3 then (some (a1, σ)) else (some (a3, σ))) else (some (a2, σ))
theorem kX6_within   (a1 : Int32) (a2 : Int32) (a3 : Int32) (σ : z_Mem) (D : Nat) (hD : 1 ≤ D) : z_Call YM mX6_within D z_i [zI a1, zI a2, zI a3] σ (fX6_within a1 a2 a3 σ) := by
  obtain ⟨D, rfl⟩ : ∃ E, D = E + 1 := ⟨D - 1, by omega⟩
  replace hD : 0 ≤ D := by omega
  refine z_entry (lv := [some (zI a1), some (zI a2), some (zI a3)]) (by decide) rfl (Nat.le_of_ble_eq_true rfl) rfl ?_
  rw [fX6_within]
  refine z_iload_n (pc := 0) dX6_within_0 rfl rfl ?_
  refine z_iload_n (pc := 1) dX6_within_1 rfl rfl ?_
  refine z_icmp_ge (tgt := 9) (pc := 2) dX6_within_2 (by decide) (fun _ => ?_) (fun _ => ?_)
  · refine z_iload_n (pc := 9) dX6_within_9 rfl rfl ?_
    refine z_iload_n (pc := 10) dX6_within_10 rfl rfl ?_
    refine z_icmp_le (tgt := 18) (pc := 11) dX6_within_11 (by decide) (fun _ => ?_) (fun _ => ?_)
    · refine z_iload_n (pc := 18) dX6_within_18 rfl rfl ?_
      exact z_iret (pc := 19) dX6_within_19 rfl rfl
    · refine z_iload_n (pc := 14) dX6_within_14 rfl rfl ?_
      refine z_goto (tgt := 19) (pc := 15) dX6_within_15 (by decide) ?_
      exact z_iret (pc := 19) dX6_within_19 rfl rfl
  · refine z_iload_n (pc := 5) dX6_within_5 rfl rfl ?_
    refine z_goto (tgt := 19) (pc := 6) dX6_within_6 (by decide) ?_
    exact z_iret (pc := 19) dX6_within_19 rfl rfl
def fX6_isOne  (a1 : Int32) (σ : z_Mem) : Option (Int32 × z_Mem) :=
  z_bd (fX6_in a1.toInt64 (0 : Int64) (((σ.1 0 10) - (1 : Int32)).toInt64) σ) (fun r1 s1 => z_gd (z_bool r1) (some (r1, s1)))
theorem kX6_isOne   (a1 : Int32) (σ : z_Mem) (D : Nat) (hD : 2 ≤ D) : z_Call YM mX6_isOne D z_i [zR 0, zI a1] σ (fX6_isOne a1 σ) := by
  obtain ⟨D, rfl⟩ : ∃ E, D = E + 1 := ⟨D - 1, by omega⟩
  replace hD : 1 ≤ D := by omega
  refine z_entry (lv := [some (zR 0), some (zI a1)]) (by decide) rfl (Nat.le_of_ble_eq_true rfl) rfl ?_
  rw [fX6_isOne]
  refine z_iload_n (pc := 0) dX6_isOne_0 rfl rfl ?_
  refine z_i2l (pc := 1) dX6_isOne_1 ?_
  refine z_lconst (v := 0) (pc := 2) dX6_isOne_2 rfl ?_
  refine z_aload_n (pc := 3) dX6_isOne_3 rfl rfl ?_
  refine gfX6_10 (pc := 4) dX6_isOne_4 ym_0 w_12_21 rfl ?_
  refine z_iconst_1 (pc := 7) dX6_isOne_7 ?_
  refine z_isub (pc := 8) dX6_isOne_8 ?_
  refine z_i2l (pc := 9) dX6_isOne_9 ?_
  refine z_S3i (pc := 10) dX6_isOne_10 lSX6_70 (Nat.le_of_ble_eq_true rfl) (kX6_in a1.toInt64 (0 : Int64) (((σ.1 0 10) - (1 : Int32)).toInt64) σ D (by omega)) (fun r1 s1 => ?_)
  exact z_guard fun hz => z_iret (pc := 13) dX6_isOne_13 rfl (z_narB hz)
def fX6_areTwo  (a1 : Int32) (a2 : Int32) (σ : z_Mem) : Option (Int32 × z_Mem) :=
  z_bd (fX6_isOne a1 σ) (fun r1 s1 => if r1 = 0 then (some ((0 : Int32), s1)) else (z_bd (fX6_isOne a2 s1) (fun r2 s2 => if r2 = 0 then (some ((0 : Int32), s2)) else (if a1 = a2 then (some ((0 : Int32), s2)) else (some ((1 : Int32), s2))))))
theorem kX6_areTwo   (a1 : Int32) (a2 : Int32) (σ : z_Mem) (D : Nat) (hD : 3 ≤ D) : z_Call YM mX6_areTwo D z_i [zR 0, zI a1, zI a2] σ (fX6_areTwo a1 a2 σ) := by
  obtain ⟨D, rfl⟩ : ∃ E, D = E + 1 := ⟨D - 1, by omega⟩
  replace hD : 2 ≤ D := by omega
  refine z_entry (lv := [some (zR 0), some (zI a1), some (zI a2)]) (by decide) rfl (Nat.le_of_ble_eq_true rfl) rfl ?_
  rw [fX6_areTwo]
  refine z_aload_n (pc := 0) dX6_areTwo_0 rfl rfl ?_
  refine z_iload_n (pc := 1) dX6_areTwo_1 rfl rfl ?_
  refine z_V1i (pc := 2) dX6_areTwo_2 lVX6_74 ym_0 rfl (Nat.le_of_ble_eq_true rfl) (kX6_isOne a1 σ D (by omega)) (fun r1 s1 => ?_)
  refine z_if_eq (tgt := 25) (pc := 5) dX6_areTwo_5 (by decide) (fun _ => ?_) (fun _ => ?_)
  · refine z_iconst_0 (pc := 25) dX6_areTwo_25 ?_
    exact z_iret (pc := 26) dX6_areTwo_26 rfl rfl
  · refine z_aload_n (pc := 8) dX6_areTwo_8 rfl rfl ?_
    refine z_iload_n (pc := 9) dX6_areTwo_9 rfl rfl ?_
    refine z_V1i (pc := 10) dX6_areTwo_10 lVX6_74 ym_0 rfl (Nat.le_of_ble_eq_true rfl) (kX6_isOne a2 s1 D (by omega)) (fun r2 s2 => ?_)
    refine z_if_eq (tgt := 25) (pc := 13) dX6_areTwo_13 (by decide) (fun _ => ?_) (fun _ => ?_)
    · refine z_iconst_0 (pc := 25) dX6_areTwo_25 ?_
      exact z_iret (pc := 26) dX6_areTwo_26 rfl rfl
    · refine z_iload_n (pc := 16) dX6_areTwo_16 rfl rfl ?_
      refine z_iload_n (pc := 17) dX6_areTwo_17 rfl rfl ?_
      refine z_icmp_eq (tgt := 25) (pc := 18) dX6_areTwo_18 (by decide) (fun _ => ?_) (fun _ => ?_)
      · refine z_iconst_0 (pc := 25) dX6_areTwo_25 ?_
        exact z_iret (pc := 26) dX6_areTwo_26 rfl rfl
      · refine z_iconst_1 (pc := 21) dX6_areTwo_21 ?_
        refine z_goto (tgt := 26) (pc := 22) dX6_areTwo_22 (by decide) ?_
        exact z_iret (pc := 26) dX6_areTwo_26 rfl rfl
def fX6_isPlace  (a1 : Int32) (σ : z_Mem) : Option (Int32 × z_Mem) :=
  z_bd (fX6_in a1.toInt64 (0 : Int64) (((σ.1 0 12) - (1 : Int32)).toInt64) σ) (fun r1 s1 => z_gd (z_bool r1) (some (r1, s1)))
theorem kX6_isPlace   (a1 : Int32) (σ : z_Mem) (D : Nat) (hD : 2 ≤ D) : z_Call YM mX6_isPlace D z_i [zR 0, zI a1] σ (fX6_isPlace a1 σ) := by
  obtain ⟨D, rfl⟩ : ∃ E, D = E + 1 := ⟨D - 1, by omega⟩
  replace hD : 1 ≤ D := by omega
  refine z_entry (lv := [some (zR 0), some (zI a1)]) (by decide) rfl (Nat.le_of_ble_eq_true rfl) rfl ?_
  rw [fX6_isPlace]
  refine z_iload_n (pc := 0) dX6_isPlace_0 rfl rfl ?_
  refine z_i2l (pc := 1) dX6_isPlace_1 ?_
  refine z_lconst (v := 0) (pc := 2) dX6_isPlace_2 rfl ?_
  refine z_aload_n (pc := 3) dX6_isPlace_3 rfl rfl ?_
  refine gfX6_12 (pc := 4) dX6_isPlace_4 ym_0 w_12_16 rfl ?_
  refine z_iconst_1 (pc := 7) dX6_isPlace_7 ?_
  refine z_isub (pc := 8) dX6_isPlace_8 ?_
  refine z_i2l (pc := 9) dX6_isPlace_9 ?_
  refine z_S3i (pc := 10) dX6_isPlace_10 lSX6_70 (Nat.le_of_ble_eq_true rfl) (kX6_in a1.toInt64 (0 : Int64) (((σ.1 0 12) - (1 : Int32)).toInt64) σ D (by omega)) (fun r1 s1 => ?_)
  exact z_guard fun hz => z_iret (pc := 13) dX6_isPlace_13 rfl (z_narB hz)
def fX6_isOf  (a1 : Int32) (a2 : Int32) (σ : z_Mem) : Option (Int32 × z_Mem) :=
  if (2 : Int32) ≤ a1 then (if (7 : Int32) ≤ a1 then (z_bd (fX6_isPlace a2 σ) (fun r1 s1 => if r1 = 0 then (some ((0 : Int32), s1)) else (if a1 = (7 : Int32) then (some ((1 : Int32), s1)) else (if s1.1 0 12 ≤ (1 : Int32) then (some ((0 : Int32), s1)) else (some ((1 : Int32), s1)))))) else (z_bd (fX6_isOne a2 σ) (fun r2 s2 => z_gd (z_bool r2) (some (r2, s2))))) else (some ((1 : Int32), σ))
theorem kX6_isOf   (a1 : Int32) (a2 : Int32) (σ : z_Mem) (D : Nat) (hD : 3 ≤ D) : z_Call YM mX6_isOf D z_i [zR 0, zI a1, zI a2] σ (fX6_isOf a1 a2 σ) := by
  obtain ⟨D, rfl⟩ : ∃ E, D = E + 1 := ⟨D - 1, by omega⟩
  replace hD : 2 ≤ D := by omega
  refine z_entry (lv := [some (zR 0), some (zI a1), some (zI a2)]) (by decide) rfl (Nat.le_of_ble_eq_true rfl) rfl ?_
  rw [fX6_isOf]
  refine z_iload_n (pc := 0) dX6_isOf_0 rfl rfl ?_
  refine z_iconst_2 (pc := 1) dX6_isOf_1 ?_
  refine z_icmp_ge (tgt := 7) (pc := 2) dX6_isOf_2 (by decide) (fun _ => ?_) (fun _ => ?_)
  · refine z_iload_n (pc := 7) dX6_isOf_7 rfl rfl ?_
    refine z_bipush_7 (pc := 8) dX6_isOf_8 ?_
    refine z_icmp_ge (tgt := 21) (pc := 10) dX6_isOf_10 (by decide) (fun _ => ?_) (fun _ => ?_)
    · refine z_aload_n (pc := 21) dX6_isOf_21 rfl rfl ?_
      refine z_iload_n (pc := 22) dX6_isOf_22 rfl rfl ?_
      refine z_V1i (pc := 23) dX6_isOf_23 lVX6_81 ym_0 rfl (Nat.le_of_ble_eq_true rfl) (kX6_isPlace a2 σ D (by omega)) (fun r1 s1 => ?_)
      refine z_if_eq (tgt := 47) (pc := 26) dX6_isOf_26 (by decide) (fun _ => ?_) (fun _ => ?_)
      · refine z_iconst_0 (pc := 47) dX6_isOf_47 ?_
        exact z_iret (pc := 48) dX6_isOf_48 rfl rfl
      · refine z_iload_n (pc := 29) dX6_isOf_29 rfl rfl ?_
        refine z_bipush_7 (pc := 30) dX6_isOf_30 ?_
        refine z_icmp_eq (tgt := 43) (pc := 32) dX6_isOf_32 (by decide) (fun _ => ?_) (fun _ => ?_)
        · refine z_iconst_1 (pc := 43) dX6_isOf_43 ?_
          refine z_goto (tgt := 48) (pc := 44) dX6_isOf_44 (by decide) ?_
          exact z_iret (pc := 48) dX6_isOf_48 rfl rfl
        · refine z_aload_n (pc := 35) dX6_isOf_35 rfl rfl ?_
          refine gfX6_12 (pc := 36) dX6_isOf_36 ym_0 w_12_16 rfl ?_
          refine z_iconst_1 (pc := 39) dX6_isOf_39 ?_
          refine z_icmp_le (tgt := 47) (pc := 40) dX6_isOf_40 (by decide) (fun _ => ?_) (fun _ => ?_)
          · refine z_iconst_0 (pc := 47) dX6_isOf_47 ?_
            exact z_iret (pc := 48) dX6_isOf_48 rfl rfl
          · refine z_iconst_1 (pc := 43) dX6_isOf_43 ?_
            refine z_goto (tgt := 48) (pc := 44) dX6_isOf_44 (by decide) ?_
            exact z_iret (pc := 48) dX6_isOf_48 rfl rfl
    · refine z_aload_n (pc := 13) dX6_isOf_13 rfl rfl ?_
      refine z_iload_n (pc := 14) dX6_isOf_14 rfl rfl ?_
      refine z_V1i (pc := 15) dX6_isOf_15 lVX6_74 ym_0 rfl (Nat.le_of_ble_eq_true rfl) (kX6_isOne a2 σ D (by omega)) (fun r2 s2 => ?_)
      refine z_goto (tgt := 48) (pc := 18) dX6_isOf_18 (by decide) ?_
      exact z_guard fun hz => z_iret (pc := 48) dX6_isOf_48 rfl (z_narB hz)
  · refine z_iconst_1 (pc := 5) dX6_isOf_5 ?_
    exact z_iret (pc := 6) dX6_isOf_6 rfl rfl
def fX6_mostOf  (a1 : Int32) (σ : z_Mem) : Option (Int32 × z_Mem) :=
  if a1 = 0 then (some ((999 : Int32), σ)) else (if a1 = (2 : Int32) then (some ((9 : Int32), σ)) else (some ((99 : Int32), σ)))
theorem kX6_mostOf   (a1 : Int32) (σ : z_Mem) (D : Nat) (hD : 1 ≤ D) : z_Call YM mX6_mostOf D z_i [zI a1] σ (fX6_mostOf a1 σ) := by
  obtain ⟨D, rfl⟩ : ∃ E, D = E + 1 := ⟨D - 1, by omega⟩
  replace hD : 0 ≤ D := by omega
  refine z_entry (lv := [some (zI a1)]) (by decide) rfl (Nat.le_of_ble_eq_true rfl) rfl ?_
  rw [fX6_mostOf]
  refine z_iload_n (pc := 0) dX6_mostOf_0 rfl rfl ?_
  refine z_if_ne (tgt := 10) (pc := 1) dX6_mostOf_1 (by decide) (fun _ => ?_) (fun _ => ?_)
  · refine z_iload_n (pc := 10) dX6_mostOf_10 rfl rfl ?_
    refine z_iconst_2 (pc := 11) dX6_mostOf_11 ?_
    refine z_icmp_ne (tgt := 20) (pc := 12) dX6_mostOf_12 (by decide) (fun _ => ?_) (fun _ => ?_)
    · refine z_bipush_99 (pc := 20) dX6_mostOf_20 ?_
      exact z_iret (pc := 22) dX6_mostOf_22 rfl rfl
    · refine z_bipush_9 (pc := 15) dX6_mostOf_15 ?_
      refine z_goto (tgt := 22) (pc := 17) dX6_mostOf_17 (by decide) ?_
      exact z_iret (pc := 22) dX6_mostOf_22 rfl rfl
  · refine z_sipush_999 (pc := 4) dX6_mostOf_4 ?_
    refine z_goto (tgt := 22) (pc := 7) dX6_mostOf_7 (by decide) ?_
    exact z_iret (pc := 22) dX6_mostOf_22 rfl rfl
def fX6_lays  (a1 : Int32) (a2 : Int32) (a3 : Int32) (σ : z_Mem) : Option (Unit × z_Mem) :=
  if (2 : Int32) ≤ a1 then (if (5 : Int32) ≤ a1 then (z_st (z_pt σ 0 4 a3) (fun s1 => some ((), s1))) else (z_gd (z_in ((((3 : Int32) * a2) + a1) - (2 : Int32)) 18) (z_st (z_pt σ 4 (z_x ((((3 : Int32) * a2) + a1) - (2 : Int32))) a3) (fun s2 => some ((), s2))))) else (if a1 = 0 then (z_st (z_pt σ 0 7 a3) (fun s6 => if a1 = (1 : Int32) then (z_st (z_pt s6 0 8 a3) (fun s8 => some ((), s8))) else (z_st (z_pt s6 0 8 (s6.1 0 8)) (fun s7 => some ((), s7))))) else (z_st (z_pt σ 0 7 (σ.1 0 7)) (fun s3 => if a1 = (1 : Int32) then (z_st (z_pt s3 0 8 a3) (fun s5 => some ((), s5))) else (z_st (z_pt s3 0 8 (s3.1 0 8)) (fun s4 => some ((), s4))))))
theorem kX6_lays   (a1 : Int32) (a2 : Int32) (a3 : Int32) (σ : z_Mem) (D : Nat) (hD : 1 ≤ D) : z_Call YM mX6_lays D z_u [zR 0, zI a1, zI a2, zI a3] σ (fX6_lays a1 a2 a3 σ) := by
  obtain ⟨D, rfl⟩ : ∃ E, D = E + 1 := ⟨D - 1, by omega⟩
  replace hD : 0 ≤ D := by omega
  refine z_entry (lv := [some (zR 0), some (zI a1), some (zI a2), some (zI a3)]) (by decide) rfl (Nat.le_of_ble_eq_true rfl) rfl ?_
  rw [fX6_lays]
  refine z_iload_n (pc := 0) dX6_lays_0 rfl rfl ?_
  refine z_iconst_2 (pc := 1) dX6_lays_1 ?_
  refine z_icmp_ge (tgt := 41) (pc := 2) dX6_lays_2 (by decide) (fun _ => ?_) (fun _ => ?_)
  · refine z_iload_n (pc := 41) dX6_lays_41 rfl rfl ?_
    refine z_iconst_5 (pc := 42) dX6_lays_42 ?_
    refine z_icmp_ge (tgt := 62) (pc := 43) dX6_lays_43 (by decide) (fun _ => ?_) (fun _ => ?_)
    · refine z_aload_n (pc := 62) dX6_lays_62 rfl rfl ?_
      refine z_iload_n (pc := 63) dX6_lays_63 rfl rfl ?_
      refine pfX6_4 (pc := 64) dX6_lays_64 ym_0 w_14_6 rfl ?_
      refine z_let (fun s1 => ?_)
      exact z_vret (pc := 67) dX6_lays_67 rfl
    · refine z_aload_n (pc := 46) dX6_lays_46 rfl rfl ?_
      refine gfX6_9 (pc := 47) dX6_lays_47 ym_0 w_10_10 rfl ?_
      refine z_iconst_3 (pc := 50) dX6_lays_50 ?_
      refine z_iload_n (pc := 51) dX6_lays_51 rfl rfl ?_
      refine z_imul (pc := 52) dX6_lays_52 ?_
      refine z_iload_n (pc := 53) dX6_lays_53 rfl rfl ?_
      refine z_iadd (pc := 54) dX6_lays_54 ?_
      refine z_iconst_2 (pc := 55) dX6_lays_55 ?_
      refine z_isub (pc := 56) dX6_lays_56 ?_
      refine z_iload_n (pc := 57) dX6_lays_57 rfl rfl ?_
      refine z_iast (pc := 58) dX6_lays_58 ym_4 ?_
      refine z_let (fun s2 => ?_)
      refine z_goto (tgt := 67) (pc := 59) dX6_lays_59 (by decide) ?_
      exact z_vret (pc := 67) dX6_lays_67 rfl
  · refine z_aload_n (pc := 5) dX6_lays_5 rfl rfl ?_
    refine z_iload_n (pc := 6) dX6_lays_6 rfl rfl ?_
    refine z_if_ne (tgt := 14) (pc := 7) dX6_lays_7 (by decide) (fun _ => ?_) (fun _ => ?_)
    · refine z_aload_n (pc := 14) dX6_lays_14 rfl rfl ?_
      refine gfX6_7 (pc := 15) dX6_lays_15 ym_0 w_13_10 rfl ?_
      refine pfX6_7 (pc := 18) dX6_lays_18 ym_0 w_13_10 rfl ?_
      refine z_let (fun s3 => ?_)
      refine z_aload_n (pc := 21) dX6_lays_21 rfl rfl ?_
      refine z_iload_n (pc := 22) dX6_lays_22 rfl rfl ?_
      refine z_iconst_1 (pc := 23) dX6_lays_23 ?_
      refine z_icmp_ne (tgt := 31) (pc := 24) dX6_lays_24 (by decide) (fun _ => ?_) (fun _ => ?_)
      · refine z_aload_n (pc := 31) dX6_lays_31 rfl rfl ?_
        refine gfX6_8 (pc := 32) dX6_lays_32 ym_0 w_13_11 rfl ?_
        refine pfX6_8 (pc := 35) dX6_lays_35 ym_0 w_13_11 rfl ?_
        refine z_let (fun s4 => ?_)
        refine z_goto (tgt := 67) (pc := 38) dX6_lays_38 (by decide) ?_
        exact z_vret (pc := 67) dX6_lays_67 rfl
      · refine z_iload_n (pc := 27) dX6_lays_27 rfl rfl ?_
        refine z_goto (tgt := 35) (pc := 28) dX6_lays_28 (by decide) ?_
        refine pfX6_8 (pc := 35) dX6_lays_35 ym_0 w_13_11 rfl ?_
        refine z_let (fun s5 => ?_)
        refine z_goto (tgt := 67) (pc := 38) dX6_lays_38 (by decide) ?_
        exact z_vret (pc := 67) dX6_lays_67 rfl
    · refine z_iload_n (pc := 10) dX6_lays_10 rfl rfl ?_
      refine z_goto (tgt := 18) (pc := 11) dX6_lays_11 (by decide) ?_
      refine pfX6_7 (pc := 18) dX6_lays_18 ym_0 w_13_10 rfl ?_
      refine z_let (fun s6 => ?_)
      refine z_aload_n (pc := 21) dX6_lays_21 rfl rfl ?_
      refine z_iload_n (pc := 22) dX6_lays_22 rfl rfl ?_
      refine z_iconst_1 (pc := 23) dX6_lays_23 ?_
      refine z_icmp_ne (tgt := 31) (pc := 24) dX6_lays_24 (by decide) (fun _ => ?_) (fun _ => ?_)
      · refine z_aload_n (pc := 31) dX6_lays_31 rfl rfl ?_
        refine gfX6_8 (pc := 32) dX6_lays_32 ym_0 w_13_11 rfl ?_
        refine pfX6_8 (pc := 35) dX6_lays_35 ym_0 w_13_11 rfl ?_
        refine z_let (fun s7 => ?_)
        refine z_goto (tgt := 67) (pc := 38) dX6_lays_38 (by decide) ?_
        exact z_vret (pc := 67) dX6_lays_67 rfl
      · refine z_iload_n (pc := 27) dX6_lays_27 rfl rfl ?_
        refine z_goto (tgt := 35) (pc := 28) dX6_lays_28 (by decide) ?_
        refine pfX6_8 (pc := 35) dX6_lays_35 ym_0 w_13_11 rfl ?_
        refine z_let (fun s8 => ?_)
        refine z_goto (tgt := 67) (pc := 38) dX6_lays_38 (by decide) ?_
        exact z_vret (pc := 67) dX6_lays_67 rfl
def fX6_man  (a1 : Int32) (a2 : Int32) (a3 : Int32) (σ : z_Mem) : Option (Int32 × z_Mem) :=
  z_bd (fX6_in a1.toInt64 (0 : Int64) (5 : Int64) σ) (fun r1 s1 => if r1 = 0 then (some ((-2 : Int32), s1)) else (z_bd (fX6_in a2.toInt64 (0 : Int64) (9 : Int64) s1) (fun r2 s2 => if r2 = 0 then (some ((-2 : Int32), s2)) else (z_bd (fX6_in a3.toInt64 (0 : Int64) (99 : Int64) s2) (fun r3 s3 => if r3 = 0 then (some ((-2 : Int32), s3)) else (if s3.1 0 10 = (6 : Int32) then (some ((-4 : Int32), s3)) else (z_gd (z_in ((3 : Int32) * (s3.1 0 10)) 18) (z_st (z_pt s3 4 (z_x ((3 : Int32) * (s3.1 0 10))) a2) (fun s4 => z_gd (z_in (((3 : Int32) * (s4.1 0 10)) + (1 : Int32)) 18) (z_st (z_pt s4 4 (z_x (((3 : Int32) * (s4.1 0 10)) + (1 : Int32))) a3) (fun s5 => z_gd (z_in (((3 : Int32) * (s5.1 0 10)) + (2 : Int32)) 18) (z_st (z_pt s5 4 (z_x (((3 : Int32) * (s5.1 0 10)) + (2 : Int32))) a1) (fun s6 => z_gd (z_in (s6.1 0 12) 6) (z_st (z_pt s6 5 (z_x (s6.1 0 12)) (s6.1 0 10)) (fun s7 => z_st (z_pt s7 0 12 ((s7.1 0 12) + (1 : Int32))) (fun s8 => z_st (z_pt s8 0 10 ((s8.1 0 10) + (1 : Int32))) (fun s9 => some ((s9.1 0 10) - (1 : Int32), s9))))))))))))))))))
theorem kX6_man   (a1 : Int32) (a2 : Int32) (a3 : Int32) (σ : z_Mem) (D : Nat) (hD : 2 ≤ D) : z_Call YM mX6_man D z_i [zR 0, zI a1, zI a2, zI a3] σ (fX6_man a1 a2 a3 σ) := by
  obtain ⟨D, rfl⟩ : ∃ E, D = E + 1 := ⟨D - 1, by omega⟩
  replace hD : 1 ≤ D := by omega
  refine z_entry (lv := [some (zR 0), some (zI a1), some (zI a2), some (zI a3)]) (by decide) rfl (Nat.le_of_ble_eq_true rfl) rfl ?_
  rw [fX6_man]
  refine z_iload_n (pc := 0) dX6_man_0 rfl rfl ?_
  refine z_i2l (pc := 1) dX6_man_1 ?_
  refine z_lconst (v := 0) (pc := 2) dX6_man_2 rfl ?_
  refine z_ldc2 (v := 5) (pc := 3) dX6_man_3 w_18_23 ?_
  refine z_S3i (pc := 6) dX6_man_6 lSX6_70 (Nat.le_of_ble_eq_true rfl) (kX6_in a1.toInt64 (0 : Int64) (5 : Int64) σ D (by omega)) (fun r1 s1 => ?_)
  refine z_if_eq (tgt := 36) (pc := 9) dX6_man_9 (by decide) (fun _ => ?_) (fun _ => ?_)
  · refine z_bipush_m2 (pc := 36) dX6_man_36 ?_
    exact z_iret (pc := 38) dX6_man_38 rfl rfl
  · refine z_iload_n (pc := 12) dX6_man_12 rfl rfl ?_
    refine z_i2l (pc := 13) dX6_man_13 ?_
    refine z_lconst (v := 0) (pc := 14) dX6_man_14 rfl ?_
    refine z_ldc2 (v := 9) (pc := 15) dX6_man_15 w_19_0 ?_
    refine z_S3i (pc := 18) dX6_man_18 lSX6_70 (Nat.le_of_ble_eq_true rfl) (kX6_in a2.toInt64 (0 : Int64) (9 : Int64) s1 D (by omega)) (fun r2 s2 => ?_)
    refine z_if_eq (tgt := 36) (pc := 21) dX6_man_21 (by decide) (fun _ => ?_) (fun _ => ?_)
    · refine z_bipush_m2 (pc := 36) dX6_man_36 ?_
      exact z_iret (pc := 38) dX6_man_38 rfl rfl
    · refine z_iload_n (pc := 24) dX6_man_24 rfl rfl ?_
      refine z_i2l (pc := 25) dX6_man_25 ?_
      refine z_lconst (v := 0) (pc := 26) dX6_man_26 rfl ?_
      refine z_ldc2 (v := 99) (pc := 27) dX6_man_27 w_19_1 ?_
      refine z_S3i (pc := 30) dX6_man_30 lSX6_70 (Nat.le_of_ble_eq_true rfl) (kX6_in a3.toInt64 (0 : Int64) (99 : Int64) s2 D (by omega)) (fun r3 s3 => ?_)
      refine z_if_ne (tgt := 39) (pc := 33) dX6_man_33 (by decide) (fun _ => ?_) (fun _ => ?_)
      · refine z_aload_n (pc := 39) dX6_man_39 rfl rfl ?_
        refine gfX6_10 (pc := 40) dX6_man_40 ym_0 w_12_21 rfl ?_
        refine z_bipush_6 (pc := 43) dX6_man_43 ?_
        refine z_icmp_ne (tgt := 51) (pc := 45) dX6_man_45 (by decide) (fun _ => ?_) (fun _ => ?_)
        · refine z_aload_n (pc := 51) dX6_man_51 rfl rfl ?_
          refine gfX6_9 (pc := 52) dX6_man_52 ym_0 w_10_10 rfl ?_
          refine z_iconst_3 (pc := 55) dX6_man_55 ?_
          refine z_aload_n (pc := 56) dX6_man_56 rfl rfl ?_
          refine gfX6_10 (pc := 57) dX6_man_57 ym_0 w_12_21 rfl ?_
          refine z_imul (pc := 60) dX6_man_60 ?_
          refine z_iload_n (pc := 61) dX6_man_61 rfl rfl ?_
          refine z_iast (pc := 62) dX6_man_62 ym_4 ?_
          refine z_let (fun s4 => ?_)
          refine z_aload_n (pc := 63) dX6_man_63 rfl rfl ?_
          refine gfX6_9 (pc := 64) dX6_man_64 ym_0 w_10_10 rfl ?_
          refine z_iconst_3 (pc := 67) dX6_man_67 ?_
          refine z_aload_n (pc := 68) dX6_man_68 rfl rfl ?_
          refine gfX6_10 (pc := 69) dX6_man_69 ym_0 w_12_21 rfl ?_
          refine z_imul (pc := 72) dX6_man_72 ?_
          refine z_iconst_1 (pc := 73) dX6_man_73 ?_
          refine z_iadd (pc := 74) dX6_man_74 ?_
          refine z_iload_n (pc := 75) dX6_man_75 rfl rfl ?_
          refine z_iast (pc := 76) dX6_man_76 ym_4 ?_
          refine z_let (fun s5 => ?_)
          refine z_aload_n (pc := 77) dX6_man_77 rfl rfl ?_
          refine gfX6_9 (pc := 78) dX6_man_78 ym_0 w_10_10 rfl ?_
          refine z_iconst_3 (pc := 81) dX6_man_81 ?_
          refine z_aload_n (pc := 82) dX6_man_82 rfl rfl ?_
          refine gfX6_10 (pc := 83) dX6_man_83 ym_0 w_12_21 rfl ?_
          refine z_imul (pc := 86) dX6_man_86 ?_
          refine z_iconst_2 (pc := 87) dX6_man_87 ?_
          refine z_iadd (pc := 88) dX6_man_88 ?_
          refine z_iload_n (pc := 89) dX6_man_89 rfl rfl ?_
          refine z_iast (pc := 90) dX6_man_90 ym_4 ?_
          refine z_let (fun s6 => ?_)
          refine z_aload_n (pc := 91) dX6_man_91 rfl rfl ?_
          refine gfX6_11 (pc := 92) dX6_man_92 ym_0 w_10_11 rfl ?_
          refine z_aload_n (pc := 95) dX6_man_95 rfl rfl ?_
          refine gfX6_12 (pc := 96) dX6_man_96 ym_0 w_12_16 rfl ?_
          refine z_aload_n (pc := 99) dX6_man_99 rfl rfl ?_
          refine gfX6_10 (pc := 100) dX6_man_100 ym_0 w_12_21 rfl ?_
          refine z_iast (pc := 103) dX6_man_103 ym_5 ?_
          refine z_let (fun s7 => ?_)
          refine z_aload_n (pc := 104) dX6_man_104 rfl rfl ?_
          refine z_dup (pc := 105) dX6_man_105 rfl ?_
          refine gfX6_12 (pc := 106) dX6_man_106 ym_0 w_12_16 rfl ?_
          refine z_iconst_1 (pc := 109) dX6_man_109 ?_
          refine z_iadd (pc := 110) dX6_man_110 ?_
          refine pfX6_12 (pc := 111) dX6_man_111 ym_0 w_12_16 rfl ?_
          refine z_let (fun s8 => ?_)
          refine z_aload_n (pc := 114) dX6_man_114 rfl rfl ?_
          refine z_dup (pc := 115) dX6_man_115 rfl ?_
          refine gfX6_10 (pc := 116) dX6_man_116 ym_0 w_12_21 rfl ?_
          refine z_iconst_1 (pc := 119) dX6_man_119 ?_
          refine z_iadd (pc := 120) dX6_man_120 ?_
          refine pfX6_10 (pc := 121) dX6_man_121 ym_0 w_12_21 rfl ?_
          refine z_let (fun s9 => ?_)
          refine z_aload_n (pc := 124) dX6_man_124 rfl rfl ?_
          refine gfX6_10 (pc := 125) dX6_man_125 ym_0 w_12_21 rfl ?_
          refine z_iconst_1 (pc := 128) dX6_man_128 ?_
          refine z_isub (pc := 129) dX6_man_129 ?_
          exact z_iret (pc := 130) dX6_man_130 rfl rfl
        · refine z_bipush_m4 (pc := 48) dX6_man_48 ?_
          exact z_iret (pc := 50) dX6_man_50 rfl rfl
      · refine z_bipush_m2 (pc := 36) dX6_man_36 ?_
        exact z_iret (pc := 38) dX6_man_38 rfl rfl
def fX6_placeOf_4  : Nat → Int32 → Int32 → Int32 → z_Mem → Option (Int32 × z_Mem)
  | 0, _, _, _, _ => none
  | q + 1, l1, l2, l3, σ => if σ.1 0 12 ≤ l3 then (some (l2, σ)) else (z_gd (z_in l3 6) (if σ.1 5 (z_x l3) = l1 then (fX6_placeOf_4  q l1 l3 (l3 + 1) σ) else (fX6_placeOf_4  q l1 l2 (l3 + 1) σ)))
theorem kX6_placeOf_4 (D : Nat)   (hD : 0 ≤ D) : ∀ (q : Nat) (l1 : Int32) (l2 : Int32) (l3 : Int32)  (σ : z_Mem), z_Go YM mX6_placeOf (D + 1) z_i 4 [some (zR 0), some (zI l1), some (zI l2), some (zI l3)] [] σ (fX6_placeOf_4 q l1 l2 l3 σ) := by
  intro q
  induction q with
  | zero => intros; exact z_none
  | succ q ih =>
    intro l1 l2 l3 σ
    rw [fX6_placeOf_4]
    refine z_iload_n (pc := 4) dX6_placeOf_4 rfl rfl ?_
    refine z_aload_n (pc := 5) dX6_placeOf_5 rfl rfl ?_
    refine gfX6_12 (pc := 6) dX6_placeOf_6 ym_0 w_12_16 rfl ?_
    refine z_icmp_ge (tgt := 34) (pc := 9) dX6_placeOf_9 (by decide) (fun _ => ?_) (fun _ => ?_)
    · refine z_iload_n (pc := 34) dX6_placeOf_34 rfl rfl ?_
      exact z_iret (pc := 35) dX6_placeOf_35 rfl rfl
    · refine z_aload_n (pc := 12) dX6_placeOf_12 rfl rfl ?_
      refine gfX6_11 (pc := 13) dX6_placeOf_13 ym_0 w_10_11 rfl ?_
      refine z_iload_n (pc := 16) dX6_placeOf_16 rfl rfl ?_
      refine z_iald (pc := 17) dX6_placeOf_17 ym_5 ?_
      refine z_iload_n (pc := 18) dX6_placeOf_18 rfl rfl ?_
      refine z_icmp_ne (tgt := 26) (pc := 19) dX6_placeOf_19 (by decide) (fun _ => ?_) (fun _ => ?_)
      · refine z_iload_n (pc := 26) dX6_placeOf_26 rfl rfl ?_
        refine z_istore_n (pc := 27) dX6_placeOf_27 rfl (Nat.le_of_ble_eq_true rfl) (z_so4_2 rfl) ?_
        refine z_iinc (y := 1) (pc := 28) dX6_placeOf_28 rfl (by decide) (Nat.le_of_ble_eq_true rfl) (z_so4_3 rfl) ?_
        refine z_goto (tgt := 4) (pc := 31) dX6_placeOf_31 (by decide) ?_
        exact ih l1 l2 (l3 + 1) σ
      · refine z_iload_n (pc := 22) dX6_placeOf_22 rfl rfl ?_
        refine z_goto (tgt := 27) (pc := 23) dX6_placeOf_23 (by decide) ?_
        refine z_istore_n (pc := 27) dX6_placeOf_27 rfl (Nat.le_of_ble_eq_true rfl) (z_so4_2 rfl) ?_
        refine z_iinc (y := 1) (pc := 28) dX6_placeOf_28 rfl (by decide) (Nat.le_of_ble_eq_true rfl) (z_so4_3 rfl) ?_
        refine z_goto (tgt := 4) (pc := 31) dX6_placeOf_31 (by decide) ?_
        exact ih l1 l3 (l3 + 1) σ
def fX6_placeOf  (a1 : Int32) (σ : z_Mem) : Option (Int32 × z_Mem) :=
  fX6_placeOf_4 z_FU a1 (-1 : Int32) (0 : Int32) σ
theorem kX6_placeOf   (a1 : Int32) (σ : z_Mem) (D : Nat) (hD : 1 ≤ D) : z_Call YM mX6_placeOf D z_i [zR 0, zI a1] σ (fX6_placeOf a1 σ) := by
  obtain ⟨D, rfl⟩ : ∃ E, D = E + 1 := ⟨D - 1, by omega⟩
  replace hD : 0 ≤ D := by omega
  refine z_entry (lv := [some (zR 0), some (zI a1), none, none]) (by decide) rfl (Nat.le_of_ble_eq_true rfl) rfl ?_
  rw [fX6_placeOf]
  refine z_iconst_m1 (pc := 0) dX6_placeOf_0 ?_
  refine z_istore_n (pc := 1) dX6_placeOf_1 rfl (Nat.le_of_ble_eq_true rfl) (z_so4_2 rfl) ?_
  refine z_iconst_0 (pc := 2) dX6_placeOf_2 ?_
  refine z_istore_n (pc := 3) dX6_placeOf_3 rfl (Nat.le_of_ble_eq_true rfl) (z_so4_3 rfl) ?_
  exact kX6_placeOf_4 D  hD z_FU a1 (-1 : Int32) (0 : Int32) σ
def fX6_feed  (a1 : Int32) (σ : z_Mem) : Option (Int32 × z_Mem) :=
  z_bd (fX6_in a1.toInt64 (0 : Int64) (255 : Int64) σ) (fun r1 s1 => if r1 = 0 then (some ((-2 : Int32), s1)) else (if s1.1 0 6 = (160 : Int32) then (some ((-4 : Int32), s1)) else (z_gd (z_in (s1.1 0 6) 160) (z_st (z_pt s1 3 (z_x (s1.1 0 6)) a1) (fun s2 => z_st (z_pt s2 0 6 ((s2.1 0 6) + (1 : Int32))) (fun s3 => some (s3.1 0 6, s3)))))))
theorem kX6_feed   (a1 : Int32) (σ : z_Mem) (D : Nat) (hD : 2 ≤ D) : z_Call YM mX6_feed D z_i [zR 0, zI a1] σ (fX6_feed a1 σ) := by
  obtain ⟨D, rfl⟩ : ∃ E, D = E + 1 := ⟨D - 1, by omega⟩
  replace hD : 1 ≤ D := by omega
  refine z_entry (lv := [some (zR 0), some (zI a1)]) (by decide) rfl (Nat.le_of_ble_eq_true rfl) rfl ?_
  rw [fX6_feed]
  refine z_iload_n (pc := 0) dX6_feed_0 rfl rfl ?_
  refine z_i2l (pc := 1) dX6_feed_1 ?_
  refine z_lconst (v := 0) (pc := 2) dX6_feed_2 rfl ?_
  refine z_ldc2 (v := 255) (pc := 3) dX6_feed_3 w_23_4 ?_
  refine z_S3i (pc := 6) dX6_feed_6 lSX6_70 (Nat.le_of_ble_eq_true rfl) (kX6_in a1.toInt64 (0 : Int64) (255 : Int64) σ D (by omega)) (fun r1 s1 => ?_)
  refine z_if_ne (tgt := 15) (pc := 9) dX6_feed_9 (by decide) (fun _ => ?_) (fun _ => ?_)
  · refine z_aload_n (pc := 15) dX6_feed_15 rfl rfl ?_
    refine gfX6_6 (pc := 16) dX6_feed_16 ym_0 w_23_5 rfl ?_
    refine z_sipush_160 (pc := 19) dX6_feed_19 ?_
    refine z_icmp_ne (tgt := 28) (pc := 22) dX6_feed_22 (by decide) (fun _ => ?_) (fun _ => ?_)
    · refine z_aload_n (pc := 28) dX6_feed_28 rfl rfl ?_
      refine gfX6_5 (pc := 29) dX6_feed_29 ym_0 w_10_9 rfl ?_
      refine z_aload_n (pc := 32) dX6_feed_32 rfl rfl ?_
      refine gfX6_6 (pc := 33) dX6_feed_33 ym_0 w_23_5 rfl ?_
      refine z_iload_n (pc := 36) dX6_feed_36 rfl rfl ?_
      refine z_iast (pc := 37) dX6_feed_37 ym_3 ?_
      refine z_let (fun s2 => ?_)
      refine z_aload_n (pc := 38) dX6_feed_38 rfl rfl ?_
      refine z_dup (pc := 39) dX6_feed_39 rfl ?_
      refine gfX6_6 (pc := 40) dX6_feed_40 ym_0 w_23_5 rfl ?_
      refine z_iconst_1 (pc := 43) dX6_feed_43 ?_
      refine z_iadd (pc := 44) dX6_feed_44 ?_
      refine pfX6_6 (pc := 45) dX6_feed_45 ym_0 w_23_5 rfl ?_
      refine z_let (fun s3 => ?_)
      refine z_aload_n (pc := 48) dX6_feed_48 rfl rfl ?_
      refine gfX6_6 (pc := 49) dX6_feed_49 ym_0 w_23_5 rfl ?_
      exact z_iret (pc := 52) dX6_feed_52 rfl rfl
    · refine z_bipush_m4 (pc := 25) dX6_feed_25 ?_
      exact z_iret (pc := 27) dX6_feed_27 rfl rfl
  · refine z_bipush_m2 (pc := 12) dX6_feed_12 ?_
    exact z_iret (pc := 14) dX6_feed_14 rfl rfl
def fX6_byteAt  (a1 : Int32) (σ : z_Mem) : Option (Int32 × z_Mem) :=
  if σ.1 0 20 ≤ a1 then (some ((-1 : Int32), σ)) else (z_gd (z_in ((σ.1 0 19) + a1) 960) (some (σ.1 1 (z_x ((σ.1 0 19) + a1)), σ)))
theorem kX6_byteAt   (a1 : Int32) (σ : z_Mem) (D : Nat) (hD : 1 ≤ D) : z_Call YM mX6_byteAt D z_i [zR 0, zI a1] σ (fX6_byteAt a1 σ) := by
  obtain ⟨D, rfl⟩ : ∃ E, D = E + 1 := ⟨D - 1, by omega⟩
  replace hD : 0 ≤ D := by omega
  refine z_entry (lv := [some (zR 0), some (zI a1)]) (by decide) rfl (Nat.le_of_ble_eq_true rfl) rfl ?_
  rw [fX6_byteAt]
  refine z_iload_n (pc := 0) dX6_byteAt_0 rfl rfl ?_
  refine z_aload_n (pc := 1) dX6_byteAt_1 rfl rfl ?_
  refine gfX6_20 (pc := 2) dX6_byteAt_2 ym_0 w_14_12 rfl ?_
  refine z_icmp_ge (tgt := 22) (pc := 5) dX6_byteAt_5 (by decide) (fun _ => ?_) (fun _ => ?_)
  · refine z_iconst_m1 (pc := 22) dX6_byteAt_22 ?_
    exact z_iret (pc := 23) dX6_byteAt_23 rfl rfl
  · refine z_aload_n (pc := 8) dX6_byteAt_8 rfl rfl ?_
    refine gfX6_1 (pc := 9) dX6_byteAt_9 ym_0 w_10_7 rfl ?_
    refine z_aload_n (pc := 12) dX6_byteAt_12 rfl rfl ?_
    refine gfX6_19 (pc := 13) dX6_byteAt_13 ym_0 w_14_11 rfl ?_
    refine z_iload_n (pc := 16) dX6_byteAt_16 rfl rfl ?_
    refine z_iadd (pc := 17) dX6_byteAt_17 ?_
    refine z_iald (pc := 18) dX6_byteAt_18 ym_1 ?_
    refine z_goto (tgt := 23) (pc := 19) dX6_byteAt_19 (by decide) ?_
    exact z_iret (pc := 23) dX6_byteAt_23 rfl rfl
def fX6_next_j300  (l1 : Int32) (σ : z_Mem) : Option (Unit × z_Mem) :=
  z_st (z_pt σ 0 22 (3 : Int32)) (fun s9 => z_st (z_pl s9 0 24 l1.toInt64) (fun s10 => z_st (z_pt s10 0 21 ((s10.1 0 21) + (1 : Int32))) (fun s11 => some ((), s11))))
theorem kX6_next_j300 (D : Nat)   (hD : 1 ≤ D) (l1 : Int32)  (σ : z_Mem) : z_Go YM mX6_next (D + 1) z_u 300 [some (zR 0), some (zI l1), none] [] σ (fX6_next_j300 l1 σ) := by
  rw [fX6_next_j300]
  refine z_aload_n (pc := 300) dX6_next_300 rfl rfl ?_
  refine z_iconst_3 (pc := 301) dX6_next_301 ?_
  refine pfX6_22 (pc := 302) dX6_next_302 ym_0 w_14_16 rfl ?_
  refine z_let (fun s9 => ?_)
  refine z_aload_n (pc := 305) dX6_next_305 rfl rfl ?_
  refine z_iload_n (pc := 306) dX6_next_306 rfl rfl ?_
  refine z_i2l (pc := 307) dX6_next_307 ?_
  refine pfX6_24 (pc := 308) dX6_next_308 ym_0 w_15_2 rfl ?_
  refine z_let (fun s10 => ?_)
  refine z_aload_n (pc := 311) dX6_next_311 rfl rfl ?_
  refine z_dup (pc := 312) dX6_next_312 rfl ?_
  refine gfX6_21 (pc := 313) dX6_next_313 ym_0 w_14_13 rfl ?_
  refine z_iconst_1 (pc := 316) dX6_next_316 ?_
  refine z_iadd (pc := 317) dX6_next_317 ?_
  refine pfX6_21 (pc := 318) dX6_next_318 ym_0 w_14_13 rfl ?_
  refine z_let (fun s11 => ?_)
  exact z_vret (pc := 321) dX6_next_321 rfl
def fX6_next_160  (K235 : Int32 → z_Mem → Option (Unit × z_Mem)) : Nat → Int32 → z_Mem → Option (Unit × z_Mem)
  | 0, _, _ => none
  | q + 1, l2, σ => z_bd (fX6_byteAt (σ.1 0 21) σ) (fun r14 s14 => z_bd (fX6_in r14.toInt64 (48 : Int64) (57 : Int64) s14) (fun r15 s15 => if r15 = 0 then (K235 l2 s15) else (if (4 : Int32) ≤ l2 then (z_st (z_pl s15 0 24 (s15.2 0 24)) (fun s16 => z_st (z_pt s16 0 21 ((s16.1 0 21) + (1 : Int32))) (fun s17 => fX6_next_160  K235 q (l2 + 1) s17))) else (z_bd (fX6_byteAt (s15.1 0 21) s15) (fun r18 s18 => z_st (z_pl s18 0 24 ((((10 : Int64) * (s15.2 0 24)) + r18.toInt64) - (48 : Int64))) (fun s19 => z_st (z_pt s19 0 21 ((s19.1 0 21) + (1 : Int32))) (fun s20 => fX6_next_160  K235 q (l2 + 1) s20)))))))
theorem kX6_next_160 (D : Nat)   (hD : 1 ≤ D) (K235 : Int32 → z_Mem → Option (Unit × z_Mem)) (hK235 : ∀ (l2 : Int32) (σ : z_Mem), z_Go YM mX6_next (D + 1) z_u 235 [some (zR 0), none, some (zI l2)] [] σ (K235 l2 σ)) : ∀ (q : Nat) (l2 : Int32)  (σ : z_Mem), z_Go YM mX6_next (D + 1) z_u 160 [some (zR 0), none, some (zI l2)] [] σ (fX6_next_160 K235 q l2 σ) := by
  intro q
  induction q with
  | zero => intros; exact z_none
  | succ q ih =>
    intro l2 σ
    rw [fX6_next_160]
    refine z_aload_n (pc := 160) dX6_next_160 rfl rfl ?_
    refine z_aload_n (pc := 161) dX6_next_161 rfl rfl ?_
    refine gfX6_21 (pc := 162) dX6_next_162 ym_0 w_14_13 rfl ?_
    refine z_V1i (pc := 165) dX6_next_165 lVX6_142 ym_0 rfl (Nat.le_of_ble_eq_true rfl) (kX6_byteAt (σ.1 0 21) σ D (by omega)) (fun r14 s14 => ?_)
    refine z_i2l (pc := 168) dX6_next_168 ?_
    refine z_ldc2 (v := 48) (pc := 169) dX6_next_169 w_15_0 ?_
    refine z_ldc2 (v := 57) (pc := 172) dX6_next_172 w_15_1 ?_
    refine z_S3i (pc := 175) dX6_next_175 lSX6_70 (Nat.le_of_ble_eq_true rfl) (kX6_in r14.toInt64 (48 : Int64) (57 : Int64) s14 D (by omega)) (fun r15 s15 => ?_)
    refine z_if_eq (tgt := 235) (pc := 178) dX6_next_178 (by decide) (fun _ => ?_) (fun _ => ?_)
    · exact hK235 l2 s15
    · refine z_aload_n (pc := 181) dX6_next_181 rfl rfl ?_
      refine z_iload_n (pc := 182) dX6_next_182 rfl rfl ?_
      refine z_iconst_4 (pc := 183) dX6_next_183 ?_
      refine z_icmp_ge (tgt := 212) (pc := 184) dX6_next_184 (by decide) (fun _ => ?_) (fun _ => ?_)
      · refine z_aload_n (pc := 212) dX6_next_212 rfl rfl ?_
        refine gfX6_24 (pc := 213) dX6_next_213 ym_0 w_15_2 rfl ?_
        refine pfX6_24 (pc := 216) dX6_next_216 ym_0 w_15_2 rfl ?_
        refine z_let (fun s16 => ?_)
        refine z_iinc (y := 1) (pc := 219) dX6_next_219 rfl (by decide) (Nat.le_of_ble_eq_true rfl) (z_so3_2 rfl) ?_
        refine z_aload_n (pc := 222) dX6_next_222 rfl rfl ?_
        refine z_dup (pc := 223) dX6_next_223 rfl ?_
        refine gfX6_21 (pc := 224) dX6_next_224 ym_0 w_14_13 rfl ?_
        refine z_iconst_1 (pc := 227) dX6_next_227 ?_
        refine z_iadd (pc := 228) dX6_next_228 ?_
        refine pfX6_21 (pc := 229) dX6_next_229 ym_0 w_14_13 rfl ?_
        refine z_let (fun s17 => ?_)
        refine z_goto (tgt := 160) (pc := 232) dX6_next_232 (by decide) ?_
        exact ih (l2 + 1) s17
      · refine z_ldc2 (v := 10) (pc := 187) dX6_next_187 w_15_3 ?_
        refine z_aload_n (pc := 190) dX6_next_190 rfl rfl ?_
        refine gfX6_24 (pc := 191) dX6_next_191 ym_0 w_15_2 rfl ?_
        refine z_lmul (pc := 194) dX6_next_194 ?_
        refine z_aload_n (pc := 195) dX6_next_195 rfl rfl ?_
        refine z_aload_n (pc := 196) dX6_next_196 rfl rfl ?_
        refine gfX6_21 (pc := 197) dX6_next_197 ym_0 w_14_13 rfl ?_
        refine z_V1i (pc := 200) dX6_next_200 lVX6_142 ym_0 rfl (Nat.le_of_ble_eq_true rfl) (kX6_byteAt (s15.1 0 21) s15 D (by omega)) (fun r18 s18 => ?_)
        refine z_i2l (pc := 203) dX6_next_203 ?_
        refine z_ladd (pc := 204) dX6_next_204 ?_
        refine z_ldc2 (v := 48) (pc := 205) dX6_next_205 w_15_0 ?_
        refine z_lsub (pc := 208) dX6_next_208 ?_
        refine z_goto (tgt := 216) (pc := 209) dX6_next_209 (by decide) ?_
        refine pfX6_24 (pc := 216) dX6_next_216 ym_0 w_15_2 rfl ?_
        refine z_let (fun s19 => ?_)
        refine z_iinc (y := 1) (pc := 219) dX6_next_219 rfl (by decide) (Nat.le_of_ble_eq_true rfl) (z_so3_2 rfl) ?_
        refine z_aload_n (pc := 222) dX6_next_222 rfl rfl ?_
        refine z_dup (pc := 223) dX6_next_223 rfl ?_
        refine gfX6_21 (pc := 224) dX6_next_224 ym_0 w_14_13 rfl ?_
        refine z_iconst_1 (pc := 227) dX6_next_227 ?_
        refine z_iadd (pc := 228) dX6_next_228 ?_
        refine pfX6_21 (pc := 229) dX6_next_229 ym_0 w_14_13 rfl ?_
        refine z_let (fun s20 => ?_)
        refine z_goto (tgt := 160) (pc := 232) dX6_next_232 (by decide) ?_
        exact ih (l2 + 1) s20
def fX6_next_100  (K321 : z_Mem → Option (Unit × z_Mem)) : Nat → z_Mem → Option (Unit × z_Mem)
  | 0, _ => none
  | q + 1, σ => z_bd (fX6_byteAt (σ.1 0 21) σ) (fun r24 s24 => z_bd (fX6_in r24.toInt64 (97 : Int64) (122 : Int64) s24) (fun r25 s25 => if r25 = 0 then (K321  s25) else (z_st (z_pt s25 0 21 ((s25.1 0 21) + (1 : Int32))) (fun s26 => fX6_next_100  K321 q s26))))
theorem kX6_next_100 (D : Nat)   (hD : 1 ≤ D) (K321 : z_Mem → Option (Unit × z_Mem)) (hK321 : ∀  (σ : z_Mem), z_Go YM mX6_next (D + 1) z_u 321 [none, none, none] [] σ (K321  σ)) : ∀ (q : Nat)   (σ : z_Mem), z_Go YM mX6_next (D + 1) z_u 100 [some (zR 0), none, none] [] σ (fX6_next_100 K321 q σ) := by
  intro q
  induction q with
  | zero => intros; exact z_none
  | succ q ih =>
    intro σ
    rw [fX6_next_100]
    refine z_aload_n (pc := 100) dX6_next_100 rfl rfl ?_
    refine z_aload_n (pc := 101) dX6_next_101 rfl rfl ?_
    refine gfX6_21 (pc := 102) dX6_next_102 ym_0 w_14_13 rfl ?_
    refine z_V1i (pc := 105) dX6_next_105 lVX6_142 ym_0 rfl (Nat.le_of_ble_eq_true rfl) (kX6_byteAt (σ.1 0 21) σ D (by omega)) (fun r24 s24 => ?_)
    refine z_i2l (pc := 108) dX6_next_108 ?_
    refine z_ldc2 (v := 97) (pc := 109) dX6_next_109 w_14_22 ?_
    refine z_ldc2 (v := 122) (pc := 112) dX6_next_112 w_14_23 ?_
    refine z_S3i (pc := 115) dX6_next_115 lSX6_70 (Nat.le_of_ble_eq_true rfl) (kX6_in r24.toInt64 (97 : Int64) (122 : Int64) s24 D (by omega)) (fun r25 s25 => ?_)
    refine z_if_eq (tgt := 321) (pc := 118) dX6_next_118 (by decide) (fun _ => ?_) (fun _ => ?_)
    · exact z_weak (lv' := [none, none, none]) (z_sub_ok trivial) (hK321  s25)
    · refine z_aload_n (pc := 121) dX6_next_121 rfl rfl ?_
      refine z_dup (pc := 122) dX6_next_122 rfl ?_
      refine gfX6_21 (pc := 123) dX6_next_123 ym_0 w_14_13 rfl ?_
      refine z_iconst_1 (pc := 126) dX6_next_126 ?_
      refine z_iadd (pc := 127) dX6_next_127 ?_
      refine pfX6_21 (pc := 128) dX6_next_128 ym_0 w_14_13 rfl ?_
      refine z_let (fun s26 => ?_)
      refine z_goto (tgt := 100) (pc := 131) dX6_next_131 (by decide) ?_
      exact ih  s26
def fX6_next_0  : Nat → z_Mem → Option (Unit × z_Mem)
  | 0, _ => none
  | q + 1, σ => z_bd (fX6_byteAt (σ.1 0 21) σ) (fun r1 s1 => if r1 = (32 : Int32) then (z_st (z_pt s1 0 21 ((s1.1 0 21) + (1 : Int32))) (fun s2 => fX6_next_0  q s2)) else (z_bd (fX6_byteAt (s1.1 0 21) s1) (fun r3 s3 => if r3 = (10 : Int32) then (z_st (z_pt s3 0 21 ((s3.1 0 21) + (1 : Int32))) (fun s29 => fX6_next_0  q s29)) else (z_st (z_pt s3 0 23 (s3.1 0 21)) (fun s4 => z_bd (fX6_byteAt (s4.1 0 21) s4) (fun r5 s5 => z_st (z_pt s5 0 22 (4 : Int32)) (fun s6 => if 0 ≤ r5 then (z_bd (fX6_in r5.toInt64 (97 : Int64) (122 : Int64) s6) (fun r7 s7 => if r7 = 0 then (z_bd (fX6_in r5.toInt64 (48 : Int64) (57 : Int64) s7) (fun r8 s8 => if r8 = 0 then (if r5 = (40 : Int32) then (fX6_next_j300 r5 s8) else (if r5 = (41 : Int32) then (fX6_next_j300 r5 s8) else (if r5 = (59 : Int32) then (fX6_next_j300 r5 s8) else (if r5 = (43 : Int32) then (fX6_next_j300 r5 s8) else (if r5 = (45 : Int32) then (fX6_next_j300 r5 s8) else (if r5 = (42 : Int32) then (fX6_next_j300 r5 s8) else (if r5 = (60 : Int32) then (fX6_next_j300 r5 s8) else (if r5 = (61 : Int32) then (fX6_next_j300 r5 s8) else (some ((), s8)))))))))) else (z_st (z_pt s8 0 22 (2 : Int32)) (fun s12 => z_st (z_pl s12 0 24 (0 : Int64)) (fun s13 => fX6_next_160 (fun l2 σ => if l2 ≤ (4 : Int32) then (z_st (z_pt σ 0 22 (2 : Int32)) (fun s21 => some ((), s21))) else (z_st (z_pt σ 0 22 (4 : Int32)) (fun s22 => some ((), s22)))) z_FU (0 : Int32) s13))))) else (z_st (z_pt s7 0 22 (1 : Int32)) (fun s23 => fX6_next_100 (fun σ => some ((), σ)) z_FU s23)))) else (z_st (z_pt s6 0 22 (0 : Int32)) (fun s27 => z_st (z_pt s27 0 23 (s27.1 0 20)) (fun s28 => some ((), s28)))))))))))
theorem kX6_next_0 (D : Nat)   (hD : 1 ≤ D) : ∀ (q : Nat)   (σ : z_Mem), z_Go YM mX6_next (D + 1) z_u 0 [some (zR 0), none, none] [] σ (fX6_next_0 q σ) := by
  intro q
  induction q with
  | zero => intros; exact z_none
  | succ q ih =>
    intro σ
    rw [fX6_next_0]
    refine z_aload_n (pc := 0) dX6_next_0 rfl rfl ?_
    refine z_aload_n (pc := 1) dX6_next_1 rfl rfl ?_
    refine gfX6_21 (pc := 2) dX6_next_2 ym_0 w_14_13 rfl ?_
    refine z_V1i (pc := 5) dX6_next_5 lVX6_142 ym_0 rfl (Nat.le_of_ble_eq_true rfl) (kX6_byteAt (σ.1 0 21) σ D (by omega)) (fun r1 s1 => ?_)
    refine z_bipush_32 (pc := 8) dX6_next_8 ?_
    refine z_icmp_eq (tgt := 26) (pc := 10) dX6_next_10 (by decide) (fun _ => ?_) (fun _ => ?_)
    · refine z_aload_n (pc := 26) dX6_next_26 rfl rfl ?_
      refine z_dup (pc := 27) dX6_next_27 rfl ?_
      refine gfX6_21 (pc := 28) dX6_next_28 ym_0 w_14_13 rfl ?_
      refine z_iconst_1 (pc := 31) dX6_next_31 ?_
      refine z_iadd (pc := 32) dX6_next_32 ?_
      refine pfX6_21 (pc := 33) dX6_next_33 ym_0 w_14_13 rfl ?_
      refine z_let (fun s2 => ?_)
      refine z_goto (tgt := 0) (pc := 36) dX6_next_36 (by decide) ?_
      exact ih  s2
    · refine z_aload_n (pc := 13) dX6_next_13 rfl rfl ?_
      refine z_aload_n (pc := 14) dX6_next_14 rfl rfl ?_
      refine gfX6_21 (pc := 15) dX6_next_15 ym_0 w_14_13 rfl ?_
      refine z_V1i (pc := 18) dX6_next_18 lVX6_142 ym_0 rfl (Nat.le_of_ble_eq_true rfl) (kX6_byteAt (s1.1 0 21) s1 D (by omega)) (fun r3 s3 => ?_)
      refine z_bipush_10 (pc := 21) dX6_next_21 ?_
      refine z_icmp_ne (tgt := 39) (pc := 23) dX6_next_23 (by decide) (fun _ => ?_) (fun _ => ?_)
      · refine z_aload_n (pc := 39) dX6_next_39 rfl rfl ?_
        refine z_aload_n (pc := 40) dX6_next_40 rfl rfl ?_
        refine gfX6_21 (pc := 41) dX6_next_41 ym_0 w_14_13 rfl ?_
        refine pfX6_23 (pc := 44) dX6_next_44 ym_0 w_14_21 rfl ?_
        refine z_let (fun s4 => ?_)
        refine z_aload_n (pc := 47) dX6_next_47 rfl rfl ?_
        refine z_aload_n (pc := 48) dX6_next_48 rfl rfl ?_
        refine gfX6_21 (pc := 49) dX6_next_49 ym_0 w_14_13 rfl ?_
        refine z_V1i (pc := 52) dX6_next_52 lVX6_142 ym_0 rfl (Nat.le_of_ble_eq_true rfl) (kX6_byteAt (s4.1 0 21) s4 D (by omega)) (fun r5 s5 => ?_)
        refine z_istore_n (pc := 55) dX6_next_55 rfl (Nat.le_of_ble_eq_true rfl) (z_so3_1 rfl) ?_
        refine z_aload_n (pc := 56) dX6_next_56 rfl rfl ?_
        refine z_iconst_4 (pc := 57) dX6_next_57 ?_
        refine pfX6_22 (pc := 58) dX6_next_58 ym_0 w_14_16 rfl ?_
        refine z_let (fun s6 => ?_)
        refine z_iload_n (pc := 61) dX6_next_61 rfl rfl ?_
        refine z_if_ge (tgt := 81) (pc := 62) dX6_next_62 (by decide) (fun _ => ?_) (fun _ => ?_)
        · refine z_iload_n (pc := 81) dX6_next_81 rfl rfl ?_
          refine z_i2l (pc := 82) dX6_next_82 ?_
          refine z_ldc2 (v := 97) (pc := 83) dX6_next_83 w_14_22 ?_
          refine z_ldc2 (v := 122) (pc := 86) dX6_next_86 w_14_23 ?_
          refine z_S3i (pc := 89) dX6_next_89 lSX6_70 (Nat.le_of_ble_eq_true rfl) (kX6_in r5.toInt64 (97 : Int64) (122 : Int64) s6 D (by omega)) (fun r7 s7 => ?_)
          refine z_if_eq (tgt := 134) (pc := 92) dX6_next_92 (by decide) (fun _ => ?_) (fun _ => ?_)
          · refine z_iload_n (pc := 134) dX6_next_134 rfl rfl ?_
            refine z_i2l (pc := 135) dX6_next_135 ?_
            refine z_ldc2 (v := 48) (pc := 136) dX6_next_136 w_15_0 ?_
            refine z_ldc2 (v := 57) (pc := 139) dX6_next_139 w_15_1 ?_
            refine z_S3i (pc := 142) dX6_next_142 lSX6_70 (Nat.le_of_ble_eq_true rfl) (kX6_in r5.toInt64 (48 : Int64) (57 : Int64) s7 D (by omega)) (fun r8 s8 => ?_)
            refine z_if_eq (tgt := 252) (pc := 145) dX6_next_145 (by decide) (fun _ => ?_) (fun _ => ?_)
            · refine z_iload_n (pc := 252) dX6_next_252 rfl rfl ?_
              refine z_bipush_40 (pc := 253) dX6_next_253 ?_
              refine z_icmp_eq (tgt := 300) (pc := 255) dX6_next_255 (by decide) (fun _ => ?_) (fun _ => ?_)
              · exact kX6_next_j300 D  hD r5 s8
              · refine z_iload_n (pc := 258) dX6_next_258 rfl rfl ?_
                refine z_bipush_41 (pc := 259) dX6_next_259 ?_
                refine z_icmp_eq (tgt := 300) (pc := 261) dX6_next_261 (by decide) (fun _ => ?_) (fun _ => ?_)
                · exact kX6_next_j300 D  hD r5 s8
                · refine z_iload_n (pc := 264) dX6_next_264 rfl rfl ?_
                  refine z_bipush_59 (pc := 265) dX6_next_265 ?_
                  refine z_icmp_eq (tgt := 300) (pc := 267) dX6_next_267 (by decide) (fun _ => ?_) (fun _ => ?_)
                  · exact kX6_next_j300 D  hD r5 s8
                  · refine z_iload_n (pc := 270) dX6_next_270 rfl rfl ?_
                    refine z_bipush_43 (pc := 271) dX6_next_271 ?_
                    refine z_icmp_eq (tgt := 300) (pc := 273) dX6_next_273 (by decide) (fun _ => ?_) (fun _ => ?_)
                    · exact kX6_next_j300 D  hD r5 s8
                    · refine z_iload_n (pc := 276) dX6_next_276 rfl rfl ?_
                      refine z_bipush_45 (pc := 277) dX6_next_277 ?_
                      refine z_icmp_eq (tgt := 300) (pc := 279) dX6_next_279 (by decide) (fun _ => ?_) (fun _ => ?_)
                      · exact kX6_next_j300 D  hD r5 s8
                      · refine z_iload_n (pc := 282) dX6_next_282 rfl rfl ?_
                        refine z_bipush_42 (pc := 283) dX6_next_283 ?_
                        refine z_icmp_eq (tgt := 300) (pc := 285) dX6_next_285 (by decide) (fun _ => ?_) (fun _ => ?_)
                        · exact kX6_next_j300 D  hD r5 s8
                        · refine z_iload_n (pc := 288) dX6_next_288 rfl rfl ?_
                          refine z_bipush_60 (pc := 289) dX6_next_289 ?_
                          refine z_icmp_eq (tgt := 300) (pc := 291) dX6_next_291 (by decide) (fun _ => ?_) (fun _ => ?_)
                          · exact kX6_next_j300 D  hD r5 s8
                          · refine z_iload_n (pc := 294) dX6_next_294 rfl rfl ?_
                            refine z_bipush_61 (pc := 295) dX6_next_295 ?_
                            refine z_icmp_ne (tgt := 321) (pc := 297) dX6_next_297 (by decide) (fun _ => ?_) (fun _ => ?_)
                            · exact z_vret (pc := 321) dX6_next_321 rfl
                            · exact kX6_next_j300 D  hD r5 s8
            · refine z_aload_n (pc := 148) dX6_next_148 rfl rfl ?_
              refine z_iconst_2 (pc := 149) dX6_next_149 ?_
              refine pfX6_22 (pc := 150) dX6_next_150 ym_0 w_14_16 rfl ?_
              refine z_let (fun s12 => ?_)
              refine z_aload_n (pc := 153) dX6_next_153 rfl rfl ?_
              refine z_lconst (v := 0) (pc := 154) dX6_next_154 rfl ?_
              refine pfX6_24 (pc := 155) dX6_next_155 ym_0 w_15_2 rfl ?_
              refine z_let (fun s13 => ?_)
              refine z_iconst_0 (pc := 158) dX6_next_158 ?_
              refine z_istore_n (pc := 159) dX6_next_159 rfl (Nat.le_of_ble_eq_true rfl) (z_so3_2 rfl) ?_
              refine z_weak (lv' := [some (zR 0), none, some (zI (0 : Int32))]) (z_sub_ok ⟨rfl, rfl, trivial⟩) (kX6_next_160 D  hD _ (fun l2 σ => ?_) z_FU (0 : Int32) s13)
              · refine z_aload_n (pc := 235) dX6_next_235 rfl rfl ?_
                refine z_iload_n (pc := 236) dX6_next_236 rfl rfl ?_
                refine z_iconst_4 (pc := 237) dX6_next_237 ?_
                refine z_icmp_le (tgt := 245) (pc := 238) dX6_next_238 (by decide) (fun _ => ?_) (fun _ => ?_)
                · refine z_iconst_2 (pc := 245) dX6_next_245 ?_
                  refine pfX6_22 (pc := 246) dX6_next_246 ym_0 w_14_16 rfl ?_
                  refine z_let (fun s21 => ?_)
                  refine z_goto (tgt := 321) (pc := 249) dX6_next_249 (by decide) ?_
                  exact z_vret (pc := 321) dX6_next_321 rfl
                · refine z_iconst_4 (pc := 241) dX6_next_241 ?_
                  refine z_goto (tgt := 246) (pc := 242) dX6_next_242 (by decide) ?_
                  refine pfX6_22 (pc := 246) dX6_next_246 ym_0 w_14_16 rfl ?_
                  refine z_let (fun s22 => ?_)
                  refine z_goto (tgt := 321) (pc := 249) dX6_next_249 (by decide) ?_
                  exact z_vret (pc := 321) dX6_next_321 rfl
          · refine z_aload_n (pc := 95) dX6_next_95 rfl rfl ?_
            refine z_iconst_1 (pc := 96) dX6_next_96 ?_
            refine pfX6_22 (pc := 97) dX6_next_97 ym_0 w_14_16 rfl ?_
            refine z_let (fun s23 => ?_)
            refine z_weak (lv' := [some (zR 0), none, none]) (z_sub_ok ⟨rfl, trivial⟩) (kX6_next_100 D  hD _ (fun  σ => ?_) z_FU  s23)
            · exact z_vret (pc := 321) dX6_next_321 rfl
        · refine z_aload_n (pc := 65) dX6_next_65 rfl rfl ?_
          refine z_iconst_0 (pc := 66) dX6_next_66 ?_
          refine pfX6_22 (pc := 67) dX6_next_67 ym_0 w_14_16 rfl ?_
          refine z_let (fun s27 => ?_)
          refine z_aload_n (pc := 70) dX6_next_70 rfl rfl ?_
          refine z_aload_n (pc := 71) dX6_next_71 rfl rfl ?_
          refine gfX6_20 (pc := 72) dX6_next_72 ym_0 w_14_12 rfl ?_
          refine pfX6_23 (pc := 75) dX6_next_75 ym_0 w_14_21 rfl ?_
          refine z_let (fun s28 => ?_)
          refine z_goto (tgt := 321) (pc := 78) dX6_next_78 (by decide) ?_
          exact z_vret (pc := 321) dX6_next_321 rfl
      · refine z_aload_n (pc := 26) dX6_next_26 rfl rfl ?_
        refine z_dup (pc := 27) dX6_next_27 rfl ?_
        refine gfX6_21 (pc := 28) dX6_next_28 ym_0 w_14_13 rfl ?_
        refine z_iconst_1 (pc := 31) dX6_next_31 ?_
        refine z_iadd (pc := 32) dX6_next_32 ?_
        refine pfX6_21 (pc := 33) dX6_next_33 ym_0 w_14_13 rfl ?_
        refine z_let (fun s29 => ?_)
        refine z_goto (tgt := 0) (pc := 36) dX6_next_36 (by decide) ?_
        exact ih  s29
def fX6_next   (σ : z_Mem) : Option (Unit × z_Mem) :=
  fX6_next_0 z_FU σ
theorem kX6_next    (σ : z_Mem) (D : Nat) (hD : 2 ≤ D) : z_Call YM mX6_next D z_u [zR 0] σ (fX6_next σ) := by
  obtain ⟨D, rfl⟩ : ∃ E, D = E + 1 := ⟨D - 1, by omega⟩
  replace hD : 1 ≤ D := by omega
  refine z_entry (lv := [some (zR 0), none, none]) (by decide) rfl (Nat.le_of_ble_eq_true rfl) rfl ?_
  rw [fX6_next]
  exact kX6_next_0 D  hD z_FU  σ
def fX6_fail   (σ : z_Mem) : Option (Unit × z_Mem) :=
  if σ.1 0 26 = 0 then (z_st (z_pt σ 0 26 (1 : Int32)) (fun s1 => z_st (z_pt s1 0 27 (s1.1 0 23)) (fun s2 => some ((), s2)))) else (some ((), σ))
theorem kX6_fail    (σ : z_Mem) (D : Nat) (hD : 1 ≤ D) : z_Call YM mX6_fail D z_u [zR 0] σ (fX6_fail σ) := by
  obtain ⟨D, rfl⟩ : ∃ E, D = E + 1 := ⟨D - 1, by omega⟩
  replace hD : 0 ≤ D := by omega
  refine z_entry (lv := [some (zR 0)]) (by decide) rfl (Nat.le_of_ble_eq_true rfl) rfl ?_
  rw [fX6_fail]
  refine z_aload_n (pc := 0) dX6_fail_0 rfl rfl ?_
  refine gfX6_26 (pc := 1) dX6_fail_1 ym_0 w_14_15 rfl ?_
  refine z_if_ne (tgt := 20) (pc := 4) dX6_fail_4 (by decide) (fun _ => ?_) (fun _ => ?_)
  · exact z_vret (pc := 20) dX6_fail_20 rfl
  · refine z_aload_n (pc := 7) dX6_fail_7 rfl rfl ?_
    refine z_iconst_1 (pc := 8) dX6_fail_8 ?_
    refine pfX6_26 (pc := 9) dX6_fail_9 ym_0 w_14_15 (by decide) (by decide) rfl ?_
    refine z_let (fun s1 => ?_)
    refine z_aload_n (pc := 12) dX6_fail_12 rfl rfl ?_
    refine z_aload_n (pc := 13) dX6_fail_13 rfl rfl ?_
    refine gfX6_23 (pc := 14) dX6_fail_14 ym_0 w_14_21 rfl ?_
    refine pfX6_27 (pc := 17) dX6_fail_17 ym_0 w_16_0 rfl ?_
    refine z_let (fun s2 => ?_)
    exact z_vret (pc := 20) dX6_fail_20 rfl
def fX6_isLetter  (a1 : Int32) (a2 : Int32) (σ : z_Mem) : Option (Int32 × z_Mem) :=
  if σ.1 0 21 ≤ (σ.1 0 23) + a1 then (if a2 = 0 then (some ((1 : Int32), σ)) else (some ((0 : Int32), σ))) else (z_bd (fX6_byteAt ((σ.1 0 23) + a1) σ) (fun r1 s1 => if r1 = a2 then (some ((1 : Int32), s1)) else (some ((0 : Int32), s1))))
theorem kX6_isLetter   (a1 : Int32) (a2 : Int32) (σ : z_Mem) (D : Nat) (hD : 2 ≤ D) : z_Call YM mX6_isLetter D z_i [zR 0, zI a1, zI a2] σ (fX6_isLetter a1 a2 σ) := by
  obtain ⟨D, rfl⟩ : ∃ E, D = E + 1 := ⟨D - 1, by omega⟩
  replace hD : 1 ≤ D := by omega
  refine z_entry (lv := [some (zR 0), some (zI a1), some (zI a2)]) (by decide) rfl (Nat.le_of_ble_eq_true rfl) rfl ?_
  rw [fX6_isLetter]
  refine z_aload_n (pc := 0) dX6_isLetter_0 rfl rfl ?_
  refine gfX6_23 (pc := 1) dX6_isLetter_1 ym_0 w_14_21 rfl ?_
  refine z_iload_n (pc := 4) dX6_isLetter_4 rfl rfl ?_
  refine z_iadd (pc := 5) dX6_isLetter_5 ?_
  refine z_aload_n (pc := 6) dX6_isLetter_6 rfl rfl ?_
  refine gfX6_21 (pc := 7) dX6_isLetter_7 ym_0 w_14_13 rfl ?_
  refine z_icmp_ge (tgt := 35) (pc := 10) dX6_isLetter_10 (by decide) (fun _ => ?_) (fun _ => ?_)
  · refine z_iload_n (pc := 35) dX6_isLetter_35 rfl rfl ?_
    refine z_if_ne (tgt := 43) (pc := 36) dX6_isLetter_36 (by decide) (fun _ => ?_) (fun _ => ?_)
    · refine z_iconst_0 (pc := 43) dX6_isLetter_43 ?_
      exact z_iret (pc := 44) dX6_isLetter_44 rfl rfl
    · refine z_iconst_1 (pc := 39) dX6_isLetter_39 ?_
      refine z_goto (tgt := 44) (pc := 40) dX6_isLetter_40 (by decide) ?_
      exact z_iret (pc := 44) dX6_isLetter_44 rfl rfl
  · refine z_aload_n (pc := 13) dX6_isLetter_13 rfl rfl ?_
    refine z_aload_n (pc := 14) dX6_isLetter_14 rfl rfl ?_
    refine gfX6_23 (pc := 15) dX6_isLetter_15 ym_0 w_14_21 rfl ?_
    refine z_iload_n (pc := 18) dX6_isLetter_18 rfl rfl ?_
    refine z_iadd (pc := 19) dX6_isLetter_19 ?_
    refine z_V1i (pc := 20) dX6_isLetter_20 lVX6_142 ym_0 rfl (Nat.le_of_ble_eq_true rfl) (kX6_byteAt ((σ.1 0 23) + a1) σ D (by omega)) (fun r1 s1 => ?_)
    refine z_iload_n (pc := 23) dX6_isLetter_23 rfl rfl ?_
    refine z_icmp_ne (tgt := 31) (pc := 24) dX6_isLetter_24 (by decide) (fun _ => ?_) (fun _ => ?_)
    · refine z_iconst_0 (pc := 31) dX6_isLetter_31 ?_
      refine z_goto (tgt := 44) (pc := 32) dX6_isLetter_32 (by decide) ?_
      exact z_iret (pc := 44) dX6_isLetter_44 rfl rfl
    · refine z_iconst_1 (pc := 27) dX6_isLetter_27 ?_
      refine z_goto (tgt := 44) (pc := 28) dX6_isLetter_28 (by decide) ?_
      exact z_iret (pc := 44) dX6_isLetter_44 rfl rfl
def fX6_isWord  (a1 : Int32) (a2 : Int32) (a3 : Int32) (a4 : Int32) (a5 : Int32) (a6 : Int32) (a7 : Int32) (a8 : Int32) (σ : z_Mem) : Option (Int32 × z_Mem) :=
  if σ.1 0 26 = 0 then (if σ.1 0 22 = (1 : Int32) then (if (σ.1 0 23) + (8 : Int32) < σ.1 0 21 then (some ((0 : Int32), σ)) else (z_bd (fX6_isLetter (0 : Int32) a1 σ) (fun r1 s1 => if r1 = 0 then (some ((0 : Int32), s1)) else (z_bd (fX6_isLetter (1 : Int32) a2 s1) (fun r2 s2 => if r2 = 0 then (some ((0 : Int32), s2)) else (z_bd (fX6_isLetter (2 : Int32) a3 s2) (fun r3 s3 => if r3 = 0 then (some ((0 : Int32), s3)) else (z_bd (fX6_isLetter (3 : Int32) a4 s3) (fun r4 s4 => if r4 = 0 then (some ((0 : Int32), s4)) else (z_bd (fX6_isLetter (4 : Int32) a5 s4) (fun r5 s5 => if r5 = 0 then (some ((0 : Int32), s5)) else (z_bd (fX6_isLetter (5 : Int32) a6 s5) (fun r6 s6 => if r6 = 0 then (some ((0 : Int32), s6)) else (z_bd (fX6_isLetter (6 : Int32) a7 s6) (fun r7 s7 => if r7 = 0 then (some ((0 : Int32), s7)) else (z_bd (fX6_isLetter (7 : Int32) a8 s7) (fun r8 s8 => if r8 = 0 then (some ((0 : Int32), s8)) else (some ((1 : Int32), s8))))))))))))))))))) else (some ((0 : Int32), σ))) else (some ((0 : Int32), σ))
theorem kX6_isWord   (a1 : Int32) (a2 : Int32) (a3 : Int32) (a4 : Int32) (a5 : Int32) (a6 : Int32) (a7 : Int32) (a8 : Int32) (σ : z_Mem) (D : Nat) (hD : 3 ≤ D) : z_Call YM mX6_isWord D z_i [zR 0, zI a1, zI a2, zI a3, zI a4, zI a5, zI a6, zI a7, zI a8] σ (fX6_isWord a1 a2 a3 a4 a5 a6 a7 a8 σ) := by
  obtain ⟨D, rfl⟩ : ∃ E, D = E + 1 := ⟨D - 1, by omega⟩
  replace hD : 2 ≤ D := by omega
  refine z_entry (lv := [some (zR 0), some (zI a1), some (zI a2), some (zI a3), some (zI a4), some (zI a5), some (zI a6), some (zI a7), some (zI a8)]) (by decide) rfl (Nat.le_of_ble_eq_true rfl) rfl ?_
  rw [fX6_isWord]
  refine z_aload_n (pc := 0) dX6_isWord_0 rfl rfl ?_
  refine gfX6_26 (pc := 1) dX6_isWord_1 ym_0 w_14_15 rfl ?_
  refine z_if_ne (tgt := 112) (pc := 4) dX6_isWord_4 (by decide) (fun _ => ?_) (fun _ => ?_)
  · refine z_iconst_0 (pc := 112) dX6_isWord_112 ?_
    exact z_iret (pc := 113) dX6_isWord_113 rfl rfl
  · refine z_aload_n (pc := 7) dX6_isWord_7 rfl rfl ?_
    refine gfX6_22 (pc := 8) dX6_isWord_8 ym_0 w_14_16 rfl ?_
    refine z_iconst_1 (pc := 11) dX6_isWord_11 ?_
    refine z_icmp_ne (tgt := 112) (pc := 12) dX6_isWord_12 (by decide) (fun _ => ?_) (fun _ => ?_)
    · refine z_iconst_0 (pc := 112) dX6_isWord_112 ?_
      exact z_iret (pc := 113) dX6_isWord_113 rfl rfl
    · refine z_aload_n (pc := 15) dX6_isWord_15 rfl rfl ?_
      refine gfX6_21 (pc := 16) dX6_isWord_16 ym_0 w_14_13 rfl ?_
      refine z_aload_n (pc := 19) dX6_isWord_19 rfl rfl ?_
      refine gfX6_23 (pc := 20) dX6_isWord_20 ym_0 w_14_21 rfl ?_
      refine z_bipush_8 (pc := 23) dX6_isWord_23 ?_
      refine z_iadd (pc := 25) dX6_isWord_25 ?_
      refine z_icmp_gt (tgt := 112) (pc := 26) dX6_isWord_26 (by decide) (fun _ => ?_) (fun _ => ?_)
      · refine z_iconst_0 (pc := 112) dX6_isWord_112 ?_
        exact z_iret (pc := 113) dX6_isWord_113 rfl rfl
      · refine z_aload_n (pc := 29) dX6_isWord_29 rfl rfl ?_
        refine z_iconst_0 (pc := 30) dX6_isWord_30 ?_
        refine z_iload_n (pc := 31) dX6_isWord_31 rfl rfl ?_
        refine z_V2i (pc := 32) dX6_isWord_32 lVX6_172 ym_0 rfl (Nat.le_of_ble_eq_true rfl) (kX6_isLetter (0 : Int32) a1 σ D (by omega)) (fun r1 s1 => ?_)
        refine z_if_eq (tgt := 112) (pc := 35) dX6_isWord_35 (by decide) (fun _ => ?_) (fun _ => ?_)
        · refine z_iconst_0 (pc := 112) dX6_isWord_112 ?_
          exact z_iret (pc := 113) dX6_isWord_113 rfl rfl
        · refine z_aload_n (pc := 38) dX6_isWord_38 rfl rfl ?_
          refine z_iconst_1 (pc := 39) dX6_isWord_39 ?_
          refine z_iload_n (pc := 40) dX6_isWord_40 rfl rfl ?_
          refine z_V2i (pc := 41) dX6_isWord_41 lVX6_172 ym_0 rfl (Nat.le_of_ble_eq_true rfl) (kX6_isLetter (1 : Int32) a2 s1 D (by omega)) (fun r2 s2 => ?_)
          refine z_if_eq (tgt := 112) (pc := 44) dX6_isWord_44 (by decide) (fun _ => ?_) (fun _ => ?_)
          · refine z_iconst_0 (pc := 112) dX6_isWord_112 ?_
            exact z_iret (pc := 113) dX6_isWord_113 rfl rfl
          · refine z_aload_n (pc := 47) dX6_isWord_47 rfl rfl ?_
            refine z_iconst_2 (pc := 48) dX6_isWord_48 ?_
            refine z_iload_n (pc := 49) dX6_isWord_49 rfl rfl ?_
            refine z_V2i (pc := 50) dX6_isWord_50 lVX6_172 ym_0 rfl (Nat.le_of_ble_eq_true rfl) (kX6_isLetter (2 : Int32) a3 s2 D (by omega)) (fun r3 s3 => ?_)
            refine z_if_eq (tgt := 112) (pc := 53) dX6_isWord_53 (by decide) (fun _ => ?_) (fun _ => ?_)
            · refine z_iconst_0 (pc := 112) dX6_isWord_112 ?_
              exact z_iret (pc := 113) dX6_isWord_113 rfl rfl
            · refine z_aload_n (pc := 56) dX6_isWord_56 rfl rfl ?_
              refine z_iconst_3 (pc := 57) dX6_isWord_57 ?_
              refine z_iload (pc := 58) dX6_isWord_58 rfl ?_
              refine z_V2i (pc := 60) dX6_isWord_60 lVX6_172 ym_0 rfl (Nat.le_of_ble_eq_true rfl) (kX6_isLetter (3 : Int32) a4 s3 D (by omega)) (fun r4 s4 => ?_)
              refine z_if_eq (tgt := 112) (pc := 63) dX6_isWord_63 (by decide) (fun _ => ?_) (fun _ => ?_)
              · refine z_iconst_0 (pc := 112) dX6_isWord_112 ?_
                exact z_iret (pc := 113) dX6_isWord_113 rfl rfl
              · refine z_aload_n (pc := 66) dX6_isWord_66 rfl rfl ?_
                refine z_iconst_4 (pc := 67) dX6_isWord_67 ?_
                refine z_iload (pc := 68) dX6_isWord_68 rfl ?_
                refine z_V2i (pc := 70) dX6_isWord_70 lVX6_172 ym_0 rfl (Nat.le_of_ble_eq_true rfl) (kX6_isLetter (4 : Int32) a5 s4 D (by omega)) (fun r5 s5 => ?_)
                refine z_if_eq (tgt := 112) (pc := 73) dX6_isWord_73 (by decide) (fun _ => ?_) (fun _ => ?_)
                · refine z_iconst_0 (pc := 112) dX6_isWord_112 ?_
                  exact z_iret (pc := 113) dX6_isWord_113 rfl rfl
                · refine z_aload_n (pc := 76) dX6_isWord_76 rfl rfl ?_
                  refine z_iconst_5 (pc := 77) dX6_isWord_77 ?_
                  refine z_iload (pc := 78) dX6_isWord_78 rfl ?_
                  refine z_V2i (pc := 80) dX6_isWord_80 lVX6_172 ym_0 rfl (Nat.le_of_ble_eq_true rfl) (kX6_isLetter (5 : Int32) a6 s5 D (by omega)) (fun r6 s6 => ?_)
                  refine z_if_eq (tgt := 112) (pc := 83) dX6_isWord_83 (by decide) (fun _ => ?_) (fun _ => ?_)
                  · refine z_iconst_0 (pc := 112) dX6_isWord_112 ?_
                    exact z_iret (pc := 113) dX6_isWord_113 rfl rfl
                  · refine z_aload_n (pc := 86) dX6_isWord_86 rfl rfl ?_
                    refine z_bipush_6 (pc := 87) dX6_isWord_87 ?_
                    refine z_iload (pc := 89) dX6_isWord_89 rfl ?_
                    refine z_V2i (pc := 91) dX6_isWord_91 lVX6_172 ym_0 rfl (Nat.le_of_ble_eq_true rfl) (kX6_isLetter (6 : Int32) a7 s6 D (by omega)) (fun r7 s7 => ?_)
                    refine z_if_eq (tgt := 112) (pc := 94) dX6_isWord_94 (by decide) (fun _ => ?_) (fun _ => ?_)
                    · refine z_iconst_0 (pc := 112) dX6_isWord_112 ?_
                      exact z_iret (pc := 113) dX6_isWord_113 rfl rfl
                    · refine z_aload_n (pc := 97) dX6_isWord_97 rfl rfl ?_
                      refine z_bipush_7 (pc := 98) dX6_isWord_98 ?_
                      refine z_iload (pc := 100) dX6_isWord_100 rfl ?_
                      refine z_V2i (pc := 102) dX6_isWord_102 lVX6_172 ym_0 rfl (Nat.le_of_ble_eq_true rfl) (kX6_isLetter (7 : Int32) a8 s7 D (by omega)) (fun r8 s8 => ?_)
                      refine z_if_eq (tgt := 112) (pc := 105) dX6_isWord_105 (by decide) (fun _ => ?_) (fun _ => ?_)
                      · refine z_iconst_0 (pc := 112) dX6_isWord_112 ?_
                        exact z_iret (pc := 113) dX6_isWord_113 rfl rfl
                      · refine z_iconst_1 (pc := 108) dX6_isWord_108 ?_
                        refine z_goto (tgt := 113) (pc := 109) dX6_isWord_109 (by decide) ?_
                        exact z_iret (pc := 113) dX6_isWord_113 rfl rfl
def fX6_isSign  (a1 : Int32) (σ : z_Mem) : Option (Int32 × z_Mem) :=
  if σ.1 0 26 = 0 then (if σ.1 0 22 = (3 : Int32) then (if lg_cmp (σ.2 0 24) a1.toInt64 = 0 then (some ((1 : Int32), σ)) else (some ((0 : Int32), σ))) else (some ((0 : Int32), σ))) else (some ((0 : Int32), σ))
theorem kX6_isSign   (a1 : Int32) (σ : z_Mem) (D : Nat) (hD : 1 ≤ D) : z_Call YM mX6_isSign D z_i [zR 0, zI a1] σ (fX6_isSign a1 σ) := by
  obtain ⟨D, rfl⟩ : ∃ E, D = E + 1 := ⟨D - 1, by omega⟩
  replace hD : 0 ≤ D := by omega
  refine z_entry (lv := [some (zR 0), some (zI a1)]) (by decide) rfl (Nat.le_of_ble_eq_true rfl) rfl ?_
  rw [fX6_isSign]
  refine z_aload_n (pc := 0) dX6_isSign_0 rfl rfl ?_
  refine gfX6_26 (pc := 1) dX6_isSign_1 ym_0 w_14_15 rfl ?_
  refine z_if_ne (tgt := 29) (pc := 4) dX6_isSign_4 (by decide) (fun _ => ?_) (fun _ => ?_)
  · refine z_iconst_0 (pc := 29) dX6_isSign_29 ?_
    exact z_iret (pc := 30) dX6_isSign_30 rfl rfl
  · refine z_aload_n (pc := 7) dX6_isSign_7 rfl rfl ?_
    refine gfX6_22 (pc := 8) dX6_isSign_8 ym_0 w_14_16 rfl ?_
    refine z_iconst_3 (pc := 11) dX6_isSign_11 ?_
    refine z_icmp_ne (tgt := 29) (pc := 12) dX6_isSign_12 (by decide) (fun _ => ?_) (fun _ => ?_)
    · refine z_iconst_0 (pc := 29) dX6_isSign_29 ?_
      exact z_iret (pc := 30) dX6_isSign_30 rfl rfl
    · refine z_aload_n (pc := 15) dX6_isSign_15 rfl rfl ?_
      refine gfX6_24 (pc := 16) dX6_isSign_16 ym_0 w_15_2 rfl ?_
      refine z_iload_n (pc := 19) dX6_isSign_19 rfl rfl ?_
      refine z_i2l (pc := 20) dX6_isSign_20 ?_
      refine z_lcmp (pc := 21) dX6_isSign_21 ?_
      refine z_if_ne (tgt := 29) (pc := 22) dX6_isSign_22 (by decide) (fun _ => ?_) (fun _ => ?_)
      · refine z_iconst_0 (pc := 29) dX6_isSign_29 ?_
        exact z_iret (pc := 30) dX6_isSign_30 rfl rfl
      · refine z_iconst_1 (pc := 25) dX6_isSign_25 ?_
        refine z_goto (tgt := 30) (pc := 26) dX6_isSign_26 (by decide) ?_
        exact z_iret (pc := 30) dX6_isSign_30 rfl rfl
def fX6_textOpens   (σ : z_Mem) : Option (Int32 × z_Mem) :=
  if σ.1 0 25 = (5 : Int32) then (z_bd (fX6_fail σ) (fun _ s3 => some ((0 : Int32), s3))) else (z_st (z_pt σ 0 25 ((σ.1 0 25) + (1 : Int32))) (fun s1 => z_bd (fX6_next s1) (fun _ s2 => some ((1 : Int32), s2))))
theorem kX6_textOpens    (σ : z_Mem) (D : Nat) (hD : 3 ≤ D) : z_Call YM mX6_textOpens D z_i [zR 0] σ (fX6_textOpens σ) := by
  obtain ⟨D, rfl⟩ : ∃ E, D = E + 1 := ⟨D - 1, by omega⟩
  replace hD : 2 ≤ D := by omega
  refine z_entry (lv := [some (zR 0)]) (by decide) rfl (Nat.le_of_ble_eq_true rfl) rfl ?_
  rw [fX6_textOpens]
  refine z_aload_n (pc := 0) dX6_textOpens_0 rfl rfl ?_
  refine gfX6_25 (pc := 1) dX6_textOpens_1 ym_0 w_14_14 rfl ?_
  refine z_iconst_5 (pc := 4) dX6_textOpens_4 ?_
  refine z_icmp_ne (tgt := 14) (pc := 5) dX6_textOpens_5 (by decide) (fun _ => ?_) (fun _ => ?_)
  · refine z_aload_n (pc := 14) dX6_textOpens_14 rfl rfl ?_
    refine z_dup (pc := 15) dX6_textOpens_15 rfl ?_
    refine gfX6_25 (pc := 16) dX6_textOpens_16 ym_0 w_14_14 rfl ?_
    refine z_iconst_1 (pc := 19) dX6_textOpens_19 ?_
    refine z_iadd (pc := 20) dX6_textOpens_20 ?_
    refine pfX6_25 (pc := 21) dX6_textOpens_21 ym_0 w_14_14 rfl ?_
    refine z_let (fun s1 => ?_)
    refine z_aload_n (pc := 24) dX6_textOpens_24 rfl rfl ?_
    refine z_V0u (pc := 25) dX6_textOpens_25 lVX6_181 ym_0 rfl (Nat.le_of_ble_eq_true rfl) (kX6_next s1 D (by omega)) (fun _ s2 => ?_)
    refine z_iconst_1 (pc := 28) dX6_textOpens_28 ?_
    exact z_iret (pc := 29) dX6_textOpens_29 rfl rfl
  · refine z_aload_n (pc := 8) dX6_textOpens_8 rfl rfl ?_
    refine z_V0u (pc := 9) dX6_textOpens_9 lVX6_178 ym_0 rfl (Nat.le_of_ble_eq_true rfl) (kX6_fail σ D (by omega)) (fun _ s3 => ?_)
    refine z_iconst_0 (pc := 12) dX6_textOpens_12 ?_
    exact z_iret (pc := 13) dX6_textOpens_13 rfl rfl
def fX6_name   (σ : z_Mem) : Option (Int32 × z_Mem) :=
  z_bd (fX6_isWord (115 : Int32) (116 : Int32) (114 : Int32) (101 : Int32) (110 : Int32) (103 : Int32) (116 : Int32) (104 : Int32) σ) (fun r1 s1 => if r1 = 0 then (z_bd (fX6_isWord (110 : Int32) (101 : Int32) (120 : Int32) (116 : Int32) (0 : Int32) (0 : Int32) (0 : Int32) (0 : Int32) s1) (fun r2 s2 => if r2 = 0 then (z_bd (fX6_isWord (110 : Int32) (117 : Int32) (109 : Int32) (98 : Int32) (101 : Int32) (114 : Int32) (0 : Int32) (0 : Int32) s2) (fun r3 s3 => if r3 = 0 then (z_bd (fX6_isWord (104 : Int32) (111 : Int32) (117 : Int32) (114 : Int32) (0 : Int32) (0 : Int32) (0 : Int32) (0 : Int32) s3) (fun r4 s4 => if r4 = 0 then (z_bd (fX6_isWord (99 : Int32) (111 : Int32) (108 : Int32) (100 : Int32) (0 : Int32) (0 : Int32) (0 : Int32) (0 : Int32) s4) (fun r5 s5 => if r5 = 0 then (z_bd (fX6_isWord (109 : Int32) (97 : Int32) (110 : Int32) (121 : Int32) (0 : Int32) (0 : Int32) (0 : Int32) (0 : Int32) s5) (fun r6 s6 => if r6 = 0 then (z_bd (fX6_fail s6) (fun _ s7 => some ((0 : Int32), s7))) else (some (s6.1 0 18, s6)))) else (some (s5.1 0 17, s5)))) else (some (s4.1 0 16, s4)))) else (some (s3.1 0 15, s3)))) else (some (s2.1 0 14, s2)))) else (some (s1.1 0 13, s1)))
theorem kX6_name    (σ : z_Mem) (D : Nat) (hD : 4 ≤ D) : z_Call YM mX6_name D z_i [zR 0] σ (fX6_name σ) := by
  obtain ⟨D, rfl⟩ : ∃ E, D = E + 1 := ⟨D - 1, by omega⟩
  replace hD : 3 ≤ D := by omega
  refine z_entry (lv := [some (zR 0)]) (by decide) rfl (Nat.le_of_ble_eq_true rfl) rfl ?_
  rw [fX6_name]
  refine z_aload_n (pc := 0) dX6_name_0 rfl rfl ?_
  refine z_bipush_115 (pc := 1) dX6_name_1 ?_
  refine z_bipush_116 (pc := 3) dX6_name_3 ?_
  refine z_bipush_114 (pc := 5) dX6_name_5 ?_
  refine z_bipush_101 (pc := 7) dX6_name_7 ?_
  refine z_bipush_110 (pc := 9) dX6_name_9 ?_
  refine z_bipush_103 (pc := 11) dX6_name_11 ?_
  refine z_bipush_116 (pc := 13) dX6_name_13 ?_
  refine z_bipush_104 (pc := 15) dX6_name_15 ?_
  refine z_V8i (pc := 17) dX6_name_17 lVX6_184 ym_0 rfl (Nat.le_of_ble_eq_true rfl) (kX6_isWord (115 : Int32) (116 : Int32) (114 : Int32) (101 : Int32) (110 : Int32) (103 : Int32) (116 : Int32) (104 : Int32) σ D (by omega)) (fun r1 s1 => ?_)
  refine z_if_eq (tgt := 28) (pc := 20) dX6_name_20 (by decide) (fun _ => ?_) (fun _ => ?_)
  · refine z_aload_n (pc := 28) dX6_name_28 rfl rfl ?_
    refine z_bipush_110 (pc := 29) dX6_name_29 ?_
    refine z_bipush_101 (pc := 31) dX6_name_31 ?_
    refine z_bipush_120 (pc := 33) dX6_name_33 ?_
    refine z_bipush_116 (pc := 35) dX6_name_35 ?_
    refine z_iconst_0 (pc := 37) dX6_name_37 ?_
    refine z_iconst_0 (pc := 38) dX6_name_38 ?_
    refine z_iconst_0 (pc := 39) dX6_name_39 ?_
    refine z_iconst_0 (pc := 40) dX6_name_40 ?_
    refine z_V8i (pc := 41) dX6_name_41 lVX6_184 ym_0 rfl (Nat.le_of_ble_eq_true rfl) (kX6_isWord (110 : Int32) (101 : Int32) (120 : Int32) (116 : Int32) (0 : Int32) (0 : Int32) (0 : Int32) (0 : Int32) s1 D (by omega)) (fun r2 s2 => ?_)
    refine z_if_eq (tgt := 52) (pc := 44) dX6_name_44 (by decide) (fun _ => ?_) (fun _ => ?_)
    · refine z_aload_n (pc := 52) dX6_name_52 rfl rfl ?_
      refine z_bipush_110 (pc := 53) dX6_name_53 ?_
      refine z_bipush_117 (pc := 55) dX6_name_55 ?_
      refine z_bipush_109 (pc := 57) dX6_name_57 ?_
      refine z_bipush_98 (pc := 59) dX6_name_59 ?_
      refine z_bipush_101 (pc := 61) dX6_name_61 ?_
      refine z_bipush_114 (pc := 63) dX6_name_63 ?_
      refine z_iconst_0 (pc := 65) dX6_name_65 ?_
      refine z_iconst_0 (pc := 66) dX6_name_66 ?_
      refine z_V8i (pc := 67) dX6_name_67 lVX6_184 ym_0 rfl (Nat.le_of_ble_eq_true rfl) (kX6_isWord (110 : Int32) (117 : Int32) (109 : Int32) (98 : Int32) (101 : Int32) (114 : Int32) (0 : Int32) (0 : Int32) s2 D (by omega)) (fun r3 s3 => ?_)
      refine z_if_eq (tgt := 78) (pc := 70) dX6_name_70 (by decide) (fun _ => ?_) (fun _ => ?_)
      · refine z_aload_n (pc := 78) dX6_name_78 rfl rfl ?_
        refine z_bipush_104 (pc := 79) dX6_name_79 ?_
        refine z_bipush_111 (pc := 81) dX6_name_81 ?_
        refine z_bipush_117 (pc := 83) dX6_name_83 ?_
        refine z_bipush_114 (pc := 85) dX6_name_85 ?_
        refine z_iconst_0 (pc := 87) dX6_name_87 ?_
        refine z_iconst_0 (pc := 88) dX6_name_88 ?_
        refine z_iconst_0 (pc := 89) dX6_name_89 ?_
        refine z_iconst_0 (pc := 90) dX6_name_90 ?_
        refine z_V8i (pc := 91) dX6_name_91 lVX6_184 ym_0 rfl (Nat.le_of_ble_eq_true rfl) (kX6_isWord (104 : Int32) (111 : Int32) (117 : Int32) (114 : Int32) (0 : Int32) (0 : Int32) (0 : Int32) (0 : Int32) s3 D (by omega)) (fun r4 s4 => ?_)
        refine z_if_eq (tgt := 102) (pc := 94) dX6_name_94 (by decide) (fun _ => ?_) (fun _ => ?_)
        · refine z_aload_n (pc := 102) dX6_name_102 rfl rfl ?_
          refine z_bipush_99 (pc := 103) dX6_name_103 ?_
          refine z_bipush_111 (pc := 105) dX6_name_105 ?_
          refine z_bipush_108 (pc := 107) dX6_name_107 ?_
          refine z_bipush_100 (pc := 109) dX6_name_109 ?_
          refine z_iconst_0 (pc := 111) dX6_name_111 ?_
          refine z_iconst_0 (pc := 112) dX6_name_112 ?_
          refine z_iconst_0 (pc := 113) dX6_name_113 ?_
          refine z_iconst_0 (pc := 114) dX6_name_114 ?_
          refine z_V8i (pc := 115) dX6_name_115 lVX6_184 ym_0 rfl (Nat.le_of_ble_eq_true rfl) (kX6_isWord (99 : Int32) (111 : Int32) (108 : Int32) (100 : Int32) (0 : Int32) (0 : Int32) (0 : Int32) (0 : Int32) s4 D (by omega)) (fun r5 s5 => ?_)
          refine z_if_eq (tgt := 126) (pc := 118) dX6_name_118 (by decide) (fun _ => ?_) (fun _ => ?_)
          · refine z_aload_n (pc := 126) dX6_name_126 rfl rfl ?_
            refine z_bipush_109 (pc := 127) dX6_name_127 ?_
            refine z_bipush_97 (pc := 129) dX6_name_129 ?_
            refine z_bipush_110 (pc := 131) dX6_name_131 ?_
            refine z_bipush_121 (pc := 133) dX6_name_133 ?_
            refine z_iconst_0 (pc := 135) dX6_name_135 ?_
            refine z_iconst_0 (pc := 136) dX6_name_136 ?_
            refine z_iconst_0 (pc := 137) dX6_name_137 ?_
            refine z_iconst_0 (pc := 138) dX6_name_138 ?_
            refine z_V8i (pc := 139) dX6_name_139 lVX6_184 ym_0 rfl (Nat.le_of_ble_eq_true rfl) (kX6_isWord (109 : Int32) (97 : Int32) (110 : Int32) (121 : Int32) (0 : Int32) (0 : Int32) (0 : Int32) (0 : Int32) s5 D (by omega)) (fun r6 s6 => ?_)
            refine z_if_eq (tgt := 150) (pc := 142) dX6_name_142 (by decide) (fun _ => ?_) (fun _ => ?_)
            · refine z_aload_n (pc := 150) dX6_name_150 rfl rfl ?_
              refine z_V0u (pc := 151) dX6_name_151 lVX6_178 ym_0 rfl (Nat.le_of_ble_eq_true rfl) (kX6_fail s6 D (by omega)) (fun _ s7 => ?_)
              refine z_iconst_0 (pc := 154) dX6_name_154 ?_
              exact z_iret (pc := 155) dX6_name_155 rfl rfl
            · refine z_aload_n (pc := 145) dX6_name_145 rfl rfl ?_
              refine gfX6_18 (pc := 146) dX6_name_146 ym_0 w_14_5 rfl ?_
              exact z_iret (pc := 149) dX6_name_149 rfl rfl
          · refine z_aload_n (pc := 121) dX6_name_121 rfl rfl ?_
            refine gfX6_17 (pc := 122) dX6_name_122 ym_0 w_14_4 rfl ?_
            exact z_iret (pc := 125) dX6_name_125 rfl rfl
        · refine z_aload_n (pc := 97) dX6_name_97 rfl rfl ?_
          refine gfX6_16 (pc := 98) dX6_name_98 ym_0 w_14_3 rfl ?_
          exact z_iret (pc := 101) dX6_name_101 rfl rfl
      · refine z_aload_n (pc := 73) dX6_name_73 rfl rfl ?_
        refine gfX6_15 (pc := 74) dX6_name_74 ym_0 w_14_2 rfl ?_
        exact z_iret (pc := 77) dX6_name_77 rfl rfl
    · refine z_aload_n (pc := 47) dX6_name_47 rfl rfl ?_
      refine gfX6_14 (pc := 48) dX6_name_48 ym_0 w_14_1 rfl ?_
      exact z_iret (pc := 51) dX6_name_51 rfl rfl
  · refine z_aload_n (pc := 23) dX6_name_23 rfl rfl ?_
    refine gfX6_13 (pc := 24) dX6_name_24 ym_0 w_14_0 rfl ?_
    exact z_iret (pc := 27) dX6_name_27 rfl rfl
