def fX5_bounded  (a1 : Int32) (σ : z_Mem) : Option (Int32 × z_Mem) :=
  if 0 ≤ a1 then (if a1 ≤ (99 : Int32) then (some (a1, σ)) else (some ((99 : Int32), σ))) else (some ((0 : Int32), σ))
theorem kX5_bounded   (a1 : Int32) (σ : z_Mem) (D : Nat) (hD : 1 ≤ D) : z_Call YC mX5_bounded D z_i [zI a1] σ (fX5_bounded a1 σ) := by
  obtain ⟨D, rfl⟩ : ∃ E, D = E + 1 := ⟨D - 1, by omega⟩
  replace hD : 0 ≤ D := by omega
  refine z_entry (lv := [some (zI a1)]) (by decide) rfl (Nat.le_of_ble_eq_true rfl) rfl ?_
  rw [fX5_bounded]
  refine z_iload_n (pc := 0) dX5_bounded_0 rfl rfl ?_
  refine z_if_ge (tgt := 8) (pc := 1) dX5_bounded_1 (by decide) (fun _ => ?_) (fun _ => ?_)
  · refine z_iload_n (pc := 8) dX5_bounded_8 rfl rfl ?_
    refine z_bipush_99 (pc := 9) dX5_bounded_9 ?_
    refine z_icmp_le (tgt := 19) (pc := 11) dX5_bounded_11 (by decide) (fun _ => ?_) (fun _ => ?_)
    · refine z_iload_n (pc := 19) dX5_bounded_19 rfl rfl ?_
      exact z_iret (pc := 20) dX5_bounded_20 rfl rfl
    · refine z_bipush_99 (pc := 14) dX5_bounded_14 ?_
      refine z_goto (tgt := 20) (pc := 16) dX5_bounded_16 (by decide) ?_
      exact z_iret (pc := 20) dX5_bounded_20 rfl rfl
  · refine z_iconst_0 (pc := 4) dX5_bounded_4 ?_
    refine z_goto (tgt := 20) (pc := 5) dX5_bounded_5 (by decide) ?_
    exact z_iret (pc := 20) dX5_bounded_20 rfl rfl
def fX5_isUnder_4  : Nat → Int32 → Int32 → Int32 → z_Mem → Option (Int32 × z_Mem)
  | 0, _, _, _, _ => none
  | q + 1, l1, l2, l3, σ => if (6 : Int32) ≤ l3 then (some ((0 : Int32), σ)) else (if l2 < 0 then (some ((0 : Int32), σ)) else (if (6 : Int32) ≤ l2 then (some ((0 : Int32), σ)) else (if l2 = l1 then (some ((1 : Int32), σ)) else (z_gd (z_in l2 6) (fX5_isUnder_4  q l1 (z_ka (z_x l2)) (l3 + 1) σ)))))
theorem kX5_isUnder_4 (D : Nat)   (hD : 0 ≤ D) : ∀ (q : Nat) (l1 : Int32) (l2 : Int32) (l3 : Int32)  (σ : z_Mem), z_Go YC mX5_isUnder (D + 1) z_i 4 [none, some (zI l1), some (zI l2), some (zI l3)] [] σ (fX5_isUnder_4 q l1 l2 l3 σ) := by
  intro q
  induction q with
  | zero => intros; exact z_none
  | succ q ih =>
    intro l1 l2 l3 σ
    rw [fX5_isUnder_4]
    refine z_iload_n (pc := 4) dX5_isUnder_4 rfl rfl ?_
    refine z_bipush_6 (pc := 5) dX5_isUnder_5 ?_
    refine z_icmp_ge (tgt := 39) (pc := 7) dX5_isUnder_7 (by decide) (fun _ => ?_) (fun _ => ?_)
    · refine z_iconst_0 (pc := 39) dX5_isUnder_39 ?_
      exact z_iret (pc := 40) dX5_isUnder_40 rfl rfl
    · refine z_iload_n (pc := 10) dX5_isUnder_10 rfl rfl ?_
      refine z_if_lt (tgt := 39) (pc := 11) dX5_isUnder_11 (by decide) (fun _ => ?_) (fun _ => ?_)
      · refine z_iconst_0 (pc := 39) dX5_isUnder_39 ?_
        exact z_iret (pc := 40) dX5_isUnder_40 rfl rfl
      · refine z_iload_n (pc := 14) dX5_isUnder_14 rfl rfl ?_
        refine z_bipush_6 (pc := 15) dX5_isUnder_15 ?_
        refine z_icmp_ge (tgt := 39) (pc := 17) dX5_isUnder_17 (by decide) (fun _ => ?_) (fun _ => ?_)
        · refine z_iconst_0 (pc := 39) dX5_isUnder_39 ?_
          exact z_iret (pc := 40) dX5_isUnder_40 rfl rfl
        · refine z_iload_n (pc := 20) dX5_isUnder_20 rfl rfl ?_
          refine z_iload_n (pc := 21) dX5_isUnder_21 rfl rfl ?_
          refine z_icmp_ne (tgt := 27) (pc := 22) dX5_isUnder_22 (by decide) (fun _ => ?_) (fun _ => ?_)
          · refine z_gstat (pc := 27) rfl dX5_isUnder_27 w_21_12 ?_
            refine z_iload_n (pc := 30) dX5_isUnder_30 rfl rfl ?_
            refine z_kald (pc := 31) dX5_isUnder_31 ?_
            refine z_istore_n (pc := 32) dX5_isUnder_32 rfl (Nat.le_of_ble_eq_true rfl) (z_so4_2 rfl) ?_
            refine z_iinc (y := 1) (pc := 33) dX5_isUnder_33 rfl (by decide) (Nat.le_of_ble_eq_true rfl) (z_so4_3 rfl) ?_
            refine z_goto (tgt := 4) (pc := 36) dX5_isUnder_36 (by decide) ?_
            exact ih l1 (z_ka (z_x l2)) (l3 + 1) σ
          · refine z_iconst_1 (pc := 25) dX5_isUnder_25 ?_
            exact z_iret (pc := 26) dX5_isUnder_26 rfl rfl
def fX5_isUnder  (a1 : Int32) (a2 : Int32) (σ : z_Mem) : Option (Int32 × z_Mem) :=
  fX5_isUnder_4 z_FU a2 a1 (0 : Int32) σ
theorem kX5_isUnder   (a1 : Int32) (a2 : Int32) (σ : z_Mem) (D : Nat) (hD : 1 ≤ D) : z_Call YC mX5_isUnder D z_i [zI a1, zI a2] σ (fX5_isUnder a1 a2 σ) := by
  obtain ⟨D, rfl⟩ : ∃ E, D = E + 1 := ⟨D - 1, by omega⟩
  replace hD : 0 ≤ D := by omega
  refine z_entry (lv := [some (zI a1), some (zI a2), none, none]) (by decide) rfl (Nat.le_of_ble_eq_true rfl) rfl ?_
  rw [fX5_isUnder]
  refine z_iload_n (pc := 0) dX5_isUnder_0 rfl rfl ?_
  refine z_istore_n (pc := 1) dX5_isUnder_1 rfl (Nat.le_of_ble_eq_true rfl) (z_so4_2 rfl) ?_
  refine z_iconst_0 (pc := 2) dX5_isUnder_2 ?_
  refine z_istore_n (pc := 3) dX5_isUnder_3 rfl (Nat.le_of_ble_eq_true rfl) (z_so4_3 rfl) ?_
  exact z_weak (lv' := [none, some (zI a2), some (zI a1), some (zI (0 : Int32))]) (z_sub_ok ⟨rfl, rfl, rfl, trivial⟩) (kX5_isUnder_4 D  hD z_FU a2 a1 (0 : Int32) σ)
def fX5_isSheet  (a1 : Int32) (σ : z_Mem) : Option (Int32 × z_Mem) :=
  if a1 < 0 then (some ((0 : Int32), σ)) else (if (4 : Int32) ≤ a1 then (some ((0 : Int32), σ)) else (some ((1 : Int32), σ)))
theorem kX5_isSheet   (a1 : Int32) (σ : z_Mem) (D : Nat) (hD : 1 ≤ D) : z_Call YC mX5_isSheet D z_i [zI a1] σ (fX5_isSheet a1 σ) := by
  obtain ⟨D, rfl⟩ : ∃ E, D = E + 1 := ⟨D - 1, by omega⟩
  replace hD : 0 ≤ D := by omega
  refine z_entry (lv := [some (zI a1)]) (by decide) rfl (Nat.le_of_ble_eq_true rfl) rfl ?_
  rw [fX5_isSheet]
  refine z_iload_n (pc := 0) dX5_isSheet_0 rfl rfl ?_
  refine z_if_lt (tgt := 13) (pc := 1) dX5_isSheet_1 (by decide) (fun _ => ?_) (fun _ => ?_)
  · refine z_iconst_0 (pc := 13) dX5_isSheet_13 ?_
    exact z_iret (pc := 14) dX5_isSheet_14 rfl rfl
  · refine z_iload_n (pc := 4) dX5_isSheet_4 rfl rfl ?_
    refine z_iconst_4 (pc := 5) dX5_isSheet_5 ?_
    refine z_icmp_ge (tgt := 13) (pc := 6) dX5_isSheet_6 (by decide) (fun _ => ?_) (fun _ => ?_)
    · refine z_iconst_0 (pc := 13) dX5_isSheet_13 ?_
      exact z_iret (pc := 14) dX5_isSheet_14 rfl rfl
    · refine z_iconst_1 (pc := 9) dX5_isSheet_9 ?_
      refine z_goto (tgt := 14) (pc := 10) dX5_isSheet_10 (by decide) ?_
      exact z_iret (pc := 14) dX5_isSheet_14 rfl rfl
def fX5_greatest  (a1 : Int32) (σ : z_Mem) : Option (Int32 × z_Mem) :=
  if a1 = 0 then (some ((999 : Int32), σ)) else (if a1 = (2 : Int32) then (some ((9 : Int32), σ)) else (some ((99 : Int32), σ)))
theorem kX5_greatest   (a1 : Int32) (σ : z_Mem) (D : Nat) (hD : 1 ≤ D) : z_Call YC mX5_greatest D z_i [zI a1] σ (fX5_greatest a1 σ) := by
  obtain ⟨D, rfl⟩ : ∃ E, D = E + 1 := ⟨D - 1, by omega⟩
  replace hD : 0 ≤ D := by omega
  refine z_entry (lv := [some (zI a1)]) (by decide) rfl (Nat.le_of_ble_eq_true rfl) rfl ?_
  rw [fX5_greatest]
  refine z_iload_n (pc := 0) dX5_greatest_0 rfl rfl ?_
  refine z_if_ne (tgt := 10) (pc := 1) dX5_greatest_1 (by decide) (fun _ => ?_) (fun _ => ?_)
  · refine z_iload_n (pc := 10) dX5_greatest_10 rfl rfl ?_
    refine z_iconst_2 (pc := 11) dX5_greatest_11 ?_
    refine z_icmp_ne (tgt := 20) (pc := 12) dX5_greatest_12 (by decide) (fun _ => ?_) (fun _ => ?_)
    · refine z_bipush_99 (pc := 20) dX5_greatest_20 ?_
      exact z_iret (pc := 22) dX5_greatest_22 rfl rfl
    · refine z_bipush_9 (pc := 15) dX5_greatest_15 ?_
      refine z_goto (tgt := 22) (pc := 17) dX5_greatest_17 (by decide) ?_
      exact z_iret (pc := 22) dX5_greatest_22 rfl rfl
  · refine z_sipush_999 (pc := 4) dX5_greatest_4 ?_
    refine z_goto (tgt := 22) (pc := 7) dX5_greatest_7 (by decide) ?_
    exact z_iret (pc := 22) dX5_greatest_22 rfl rfl
def fX5_lowestTerm_j39  (l0 : Int32) (l1 : Int32) (l2 : Int32) (l3 : Int32) (σ : z_Mem) : Option (Int64 × z_Mem) :=
  if l2 = 0 then (if l3 ≤ 0 then (some (l0.toInt64, σ)) else (z_gd (¬ l3 = 0) (some ((l0 / l3).toInt64, σ)))) else (if l3 ≤ 0 then (some (l1.toInt64, σ)) else (z_gd (¬ l3 = 0) (some ((l1 / l3).toInt64, σ))))
theorem kX5_lowestTerm_j39 (D : Nat)   (hD : 0 ≤ D) (l0 : Int32) (l1 : Int32) (l2 : Int32) (l3 : Int32)  (σ : z_Mem) : z_Go YC mX5_lowestTerm (D + 1) z_l 39 [some (zI l0), some (zI l1), some (zI l2), some (zI l3), none, none, none] [] σ (fX5_lowestTerm_j39 l0 l1 l2 l3 σ) := by
  rw [fX5_lowestTerm_j39]
  refine z_iload_n (pc := 39) dX5_lowestTerm_39 rfl rfl ?_
  refine z_if_ne (tgt := 47) (pc := 40) dX5_lowestTerm_40 (by decide) (fun _ => ?_) (fun _ => ?_)
  · refine z_iload_n (pc := 47) dX5_lowestTerm_47 rfl rfl ?_
    refine z_istore (pc := 48) dX5_lowestTerm_48 (Nat.le_of_ble_eq_true rfl) (z_so7_5 rfl) ?_
    refine z_iload_n (pc := 50) dX5_lowestTerm_50 rfl rfl ?_
    refine z_if_le (tgt := 62) (pc := 51) dX5_lowestTerm_51 (by decide) (fun _ => ?_) (fun _ => ?_)
    · refine z_iload (pc := 62) dX5_lowestTerm_62 rfl ?_
      refine z_i2l (pc := 64) dX5_lowestTerm_64 ?_
      exact z_lret (pc := 65) dX5_lowestTerm_65 rfl
    · refine z_iload (pc := 54) dX5_lowestTerm_54 rfl ?_
      refine z_iload_n (pc := 56) dX5_lowestTerm_56 rfl rfl ?_
      refine z_idiv (pc := 57) dX5_lowestTerm_57 ?_
      refine z_i2l (pc := 58) dX5_lowestTerm_58 ?_
      refine z_goto (tgt := 65) (pc := 59) dX5_lowestTerm_59 (by decide) ?_
      exact z_lret (pc := 65) dX5_lowestTerm_65 rfl
  · refine z_iload_n (pc := 43) dX5_lowestTerm_43 rfl rfl ?_
    refine z_goto (tgt := 48) (pc := 44) dX5_lowestTerm_44 (by decide) ?_
    refine z_istore (pc := 48) dX5_lowestTerm_48 (Nat.le_of_ble_eq_true rfl) (z_so7_5 rfl) ?_
    refine z_iload_n (pc := 50) dX5_lowestTerm_50 rfl rfl ?_
    refine z_if_le (tgt := 62) (pc := 51) dX5_lowestTerm_51 (by decide) (fun _ => ?_) (fun _ => ?_)
    · refine z_iload (pc := 62) dX5_lowestTerm_62 rfl ?_
      refine z_i2l (pc := 64) dX5_lowestTerm_64 ?_
      exact z_lret (pc := 65) dX5_lowestTerm_65 rfl
    · refine z_iload (pc := 54) dX5_lowestTerm_54 rfl ?_
      refine z_iload_n (pc := 56) dX5_lowestTerm_56 rfl rfl ?_
      refine z_idiv (pc := 57) dX5_lowestTerm_57 ?_
      refine z_i2l (pc := 58) dX5_lowestTerm_58 ?_
      refine z_goto (tgt := 65) (pc := 59) dX5_lowestTerm_59 (by decide) ?_
      exact z_lret (pc := 65) dX5_lowestTerm_65 rfl
def fX5_lowestTerm_8  : Nat → Int32 → Int32 → Int32 → Int32 → Int32 → Int32 → z_Mem → Option (Int64 × z_Mem)
  | 0, _, _, _, _, _, _, _ => none
  | q + 1, l0, l1, l2, l3, l4, l5, σ => if (64 : Int32) ≤ l5 then (fX5_lowestTerm_j39 l0 l1 l2 l3 σ) else (if l4 = 0 then (fX5_lowestTerm_j39 l0 l1 l2 l3 σ) else (z_gd (¬ l4 = 0) (fX5_lowestTerm_8  q l0 l1 l2 l4 (l3 - l3 / l4 * l4) (l5 + 1) σ)))
theorem kX5_lowestTerm_8 (D : Nat)   (hD : 0 ≤ D) : ∀ (q : Nat) (l0 : Int32) (l1 : Int32) (l2 : Int32) (l3 : Int32) (l4 : Int32) (l5 : Int32)  (σ : z_Mem), z_Go YC mX5_lowestTerm (D + 1) z_l 8 [some (zI l0), some (zI l1), some (zI l2), some (zI l3), some (zI l4), some (zI l5), none] [] σ (fX5_lowestTerm_8 q l0 l1 l2 l3 l4 l5 σ) := by
  intro q
  induction q with
  | zero => intros; exact z_none
  | succ q ih =>
    intro l0 l1 l2 l3 l4 l5 σ
    rw [fX5_lowestTerm_8]
    refine z_iload (pc := 8) dX5_lowestTerm_8 rfl ?_
    refine z_bipush_64 (pc := 10) dX5_lowestTerm_10 ?_
    refine z_icmp_ge (tgt := 39) (pc := 12) dX5_lowestTerm_12 (by decide) (fun _ => ?_) (fun _ => ?_)
    · exact z_weak (lv' := [some (zI l0), some (zI l1), some (zI l2), some (zI l3), none, none, none]) (z_sub_ok ⟨rfl, rfl, rfl, rfl, trivial⟩) (kX5_lowestTerm_j39 D  hD l0 l1 l2 l3 σ)
    · refine z_iload (pc := 15) dX5_lowestTerm_15 rfl ?_
      refine z_if_eq (tgt := 39) (pc := 17) dX5_lowestTerm_17 (by decide) (fun _ => ?_) (fun _ => ?_)
      · exact z_weak (lv' := [some (zI l0), some (zI l1), some (zI l2), some (zI l3), none, none, none]) (z_sub_ok ⟨rfl, rfl, rfl, rfl, trivial⟩) (kX5_lowestTerm_j39 D  hD l0 l1 l2 l3 σ)
      · refine z_iload_n (pc := 20) dX5_lowestTerm_20 rfl rfl ?_
        refine z_iload (pc := 21) dX5_lowestTerm_21 rfl ?_
        refine z_irem (pc := 23) dX5_lowestTerm_23 ?_
        refine z_istore (pc := 24) dX5_lowestTerm_24 (Nat.le_of_ble_eq_true rfl) (z_so7_6 rfl) ?_
        refine z_iload (pc := 26) dX5_lowestTerm_26 rfl ?_
        refine z_istore_n (pc := 28) dX5_lowestTerm_28 rfl (Nat.le_of_ble_eq_true rfl) (z_so7_3 rfl) ?_
        refine z_iload (pc := 29) dX5_lowestTerm_29 rfl ?_
        refine z_istore (pc := 31) dX5_lowestTerm_31 (Nat.le_of_ble_eq_true rfl) (z_so7_4 rfl) ?_
        refine z_iinc (y := 1) (pc := 33) dX5_lowestTerm_33 rfl (by decide) (Nat.le_of_ble_eq_true rfl) (z_so7_5 rfl) ?_
        refine z_goto (tgt := 8) (pc := 36) dX5_lowestTerm_36 (by decide) ?_
        exact z_weak (lv' := [some (zI l0), some (zI l1), some (zI l2), some (zI l4), some (zI (l3 - l3 / l4 * l4)), some (zI (l5 + 1)), none]) (z_sub_ok ⟨rfl, rfl, rfl, rfl, rfl, rfl, trivial⟩) (ih l0 l1 l2 l4 (l3 - l3 / l4 * l4) (l5 + 1) σ)
def fX5_lowestTerm  (a1 : Int32) (a2 : Int32) (a3 : Int32) (σ : z_Mem) : Option (Int64 × z_Mem) :=
  fX5_lowestTerm_8 z_FU a1 a2 a3 a1 a2 (0 : Int32) σ
theorem kX5_lowestTerm   (a1 : Int32) (a2 : Int32) (a3 : Int32) (σ : z_Mem) (D : Nat) (hD : 1 ≤ D) : z_Call YC mX5_lowestTerm D z_l [zI a1, zI a2, zI a3] σ (fX5_lowestTerm a1 a2 a3 σ) := by
  obtain ⟨D, rfl⟩ : ∃ E, D = E + 1 := ⟨D - 1, by omega⟩
  replace hD : 0 ≤ D := by omega
  refine z_entry (lv := [some (zI a1), some (zI a2), some (zI a3), none, none, none, none]) (by decide) rfl (Nat.le_of_ble_eq_true rfl) rfl ?_
  rw [fX5_lowestTerm]
  refine z_iload_n (pc := 0) dX5_lowestTerm_0 rfl rfl ?_
  refine z_istore_n (pc := 1) dX5_lowestTerm_1 rfl (Nat.le_of_ble_eq_true rfl) (z_so7_3 rfl) ?_
  refine z_iload_n (pc := 2) dX5_lowestTerm_2 rfl rfl ?_
  refine z_istore (pc := 3) dX5_lowestTerm_3 (Nat.le_of_ble_eq_true rfl) (z_so7_4 rfl) ?_
  refine z_iconst_0 (pc := 5) dX5_lowestTerm_5 ?_
  refine z_istore (pc := 6) dX5_lowestTerm_6 (Nat.le_of_ble_eq_true rfl) (z_so7_5 rfl) ?_
  exact kX5_lowestTerm_8 D  hD z_FU a1 a2 a3 a1 a2 (0 : Int32) σ
def fX5_traitReadBack  (a1 : Int32) (σ : z_Mem) : Option (Int32 × z_Mem) :=
  if a1 = 1 then (some ((4 : Int32), σ)) else if a1 = 2 then (some ((2 : Int32), σ)) else if a1 = 3 then (some ((3 : Int32), σ)) else if a1 = 4 then (some ((3 : Int32), σ)) else if a1 = 5 then (some ((1 : Int32), σ)) else if a1 = 6 then (some ((1 : Int32), σ)) else some ((9 : Int32), σ)
theorem kX5_traitReadBack   (a1 : Int32) (σ : z_Mem) (D : Nat) (hD : 1 ≤ D) : z_Call YC mX5_traitReadBack D z_i [zI a1] σ (fX5_traitReadBack a1 σ) := by
  obtain ⟨D, rfl⟩ : ∃ E, D = E + 1 := ⟨D - 1, by omega⟩
  replace hD : 0 ≤ D := by omega
  refine z_entry (lv := [some (zI a1)]) (by decide) rfl (Nat.le_of_ble_eq_true rfl) rfl ?_
  rw [fX5_traitReadBack]
  refine z_iload_n (pc := 0) dX5_traitReadBack_0 rfl rfl ?_
  refine z_tswC (n := 1) (off := 39) (tgt := 40) (pc := 1) dX5_traitReadBack_1 (by decide) (by decide) (by decide) (by decide) ?_ (fun h0 => ?_)
  · refine z_iconst_4 (pc := 40) dX5_traitReadBack_40 ?_
    exact z_iret (pc := 41) dX5_traitReadBack_41 rfl rfl
  · refine z_tswC (n := 2) (off := 41) (tgt := 42) (pc := 1) dX5_traitReadBack_1 (by decide) (by decide) (by decide) (by decide) ?_ (fun h1 => ?_)
    · refine z_iconst_2 (pc := 42) dX5_traitReadBack_42 ?_
      exact z_iret (pc := 43) dX5_traitReadBack_43 rfl rfl
    · refine z_tswC (n := 3) (off := 43) (tgt := 44) (pc := 1) dX5_traitReadBack_1 (by decide) (by decide) (by decide) (by decide) ?_ (fun h2 => ?_)
      · refine z_iconst_3 (pc := 44) dX5_traitReadBack_44 ?_
        exact z_iret (pc := 45) dX5_traitReadBack_45 rfl rfl
      · refine z_tswC (n := 4) (off := 43) (tgt := 44) (pc := 1) dX5_traitReadBack_1 (by decide) (by decide) (by decide) (by decide) ?_ (fun h3 => ?_)
        · refine z_iconst_3 (pc := 44) dX5_traitReadBack_44 ?_
          exact z_iret (pc := 45) dX5_traitReadBack_45 rfl rfl
        · refine z_tswC (n := 5) (off := 45) (tgt := 46) (pc := 1) dX5_traitReadBack_1 (by decide) (by decide) (by decide) (by decide) ?_ (fun h4 => ?_)
          · refine z_iconst_1 (pc := 46) dX5_traitReadBack_46 ?_
            exact z_iret (pc := 47) dX5_traitReadBack_47 rfl rfl
          · refine z_tswC (n := 6) (off := 45) (tgt := 46) (pc := 1) dX5_traitReadBack_1 (by decide) (by decide) (by decide) (by decide) ?_ (fun h5 => ?_)
            · refine z_iconst_1 (pc := 46) dX5_traitReadBack_46 ?_
              exact z_iret (pc := 47) dX5_traitReadBack_47 rfl rfl
            · refine z_tswD (tgt := 48) (pc := 1) dX5_traitReadBack_1 (by have t0 := lv_neT h0 (a := 1) rfl; have t1 := lv_neT h1 (a := 2) rfl; have t2 := lv_neT h2 (a := 3) rfl; have t3 := lv_neT h3 (a := 4) rfl; have t4 := lv_neT h4 (a := 5) rfl; have t5 := lv_neT h5 (a := 6) rfl; omega) (by decide) ?_
              refine z_bipush_9 (pc := 48) dX5_traitReadBack_48 ?_
              exact z_iret (pc := 50) dX5_traitReadBack_50 rfl rfl
def fX4_begin   (σ : z_Mem) : Option (Unit × z_Mem) :=
  z_st (z_pt σ 1 4 ((σ.1 1 3) * (160 : Int32))) (fun s1 => some ((), s1))
theorem kX4_begin    (σ : z_Mem) (D : Nat) (hD : 1 ≤ D) : z_Call YC mX4_begin D z_u [zR 1] σ (fX4_begin σ) := by
  obtain ⟨D, rfl⟩ : ∃ E, D = E + 1 := ⟨D - 1, by omega⟩
  replace hD : 0 ≤ D := by omega
  refine z_entry (lv := [some (zR 1)]) (by decide) rfl (Nat.le_of_ble_eq_true rfl) rfl ?_
  rw [fX4_begin]
  refine z_aload_n (pc := 0) dX4_begin_0 rfl rfl ?_
  refine z_aload_n (pc := 1) dX4_begin_1 rfl rfl ?_
  refine gfX4_3 (pc := 2) dX4_begin_2 yc_1 w_6_14 rfl ?_
  refine z_sipush_160 (pc := 5) dX4_begin_5 ?_
  refine z_imul (pc := 8) dX4_begin_8 ?_
  refine pfX4_4 (pc := 9) dX4_begin_9 yc_1 w_6_15 rfl ?_
  refine z_let (fun s1 => ?_)
  exact z_vret (pc := 12) dX4_begin_12 rfl
def fX4_put  (a1 : Int32) (σ : z_Mem) : Option (Unit × z_Mem) :=
  if σ.1 1 4 < 0 then (some ((), σ)) else (if (960 : Int32) ≤ σ.1 1 4 then (some ((), σ)) else (z_gd (z_in (σ.1 1 4) 960) (z_st (z_pt σ 2 (z_x (σ.1 1 4)) a1) (fun s1 => z_st (z_pt s1 1 4 ((s1.1 1 4) + (1 : Int32))) (fun s2 => some ((), s2))))))
theorem kX4_put   (a1 : Int32) (σ : z_Mem) (D : Nat) (hD : 1 ≤ D) : z_Call YC mX4_put D z_u [zR 1, zI a1] σ (fX4_put a1 σ) := by
  obtain ⟨D, rfl⟩ : ∃ E, D = E + 1 := ⟨D - 1, by omega⟩
  replace hD : 0 ≤ D := by omega
  refine z_entry (lv := [some (zR 1), some (zI a1)]) (by decide) rfl (Nat.le_of_ble_eq_true rfl) rfl ?_
  rw [fX4_put]
  refine z_aload_n (pc := 0) dX4_put_0 rfl rfl ?_
  refine gfX4_4 (pc := 1) dX4_put_1 yc_1 w_6_15 rfl ?_
  refine z_if_lt (tgt := 39) (pc := 4) dX4_put_4 (by decide) (fun _ => ?_) (fun _ => ?_)
  · exact z_vret (pc := 39) dX4_put_39 rfl
  · refine z_aload_n (pc := 7) dX4_put_7 rfl rfl ?_
    refine gfX4_4 (pc := 8) dX4_put_8 yc_1 w_6_15 rfl ?_
    refine z_aload_n (pc := 11) dX4_put_11 rfl rfl ?_
    refine gfX4_0 (pc := 12) dX4_put_12 yc_1 w_2_14 rfl ?_
    refine z_alen (v := 960) (pc := 15) dX4_put_15 yc_2 (by decide) ?_
    refine z_icmp_ge (tgt := 39) (pc := 16) dX4_put_16 (by decide) (fun _ => ?_) (fun _ => ?_)
    · exact z_vret (pc := 39) dX4_put_39 rfl
    · refine z_aload_n (pc := 19) dX4_put_19 rfl rfl ?_
      refine gfX4_0 (pc := 20) dX4_put_20 yc_1 w_2_14 rfl ?_
      refine z_aload_n (pc := 23) dX4_put_23 rfl rfl ?_
      refine gfX4_4 (pc := 24) dX4_put_24 yc_1 w_6_15 rfl ?_
      refine z_iload_n (pc := 27) dX4_put_27 rfl rfl ?_
      refine z_iast (pc := 28) dX4_put_28 yc_2 ?_
      refine z_let (fun s1 => ?_)
      refine z_aload_n (pc := 29) dX4_put_29 rfl rfl ?_
      refine z_dup (pc := 30) dX4_put_30 rfl ?_
      refine gfX4_4 (pc := 31) dX4_put_31 yc_1 w_6_15 rfl ?_
      refine z_iconst_1 (pc := 34) dX4_put_34 ?_
      refine z_iadd (pc := 35) dX4_put_35 ?_
      refine pfX4_4 (pc := 36) dX4_put_36 yc_1 w_6_15 rfl ?_
      refine z_let (fun s2 => ?_)
      exact z_vret (pc := 39) dX4_put_39 rfl
def fX4_endPart  (a1 : Int32) (σ : z_Mem) : Option (Unit × z_Mem) :=
  if ((σ.1 1 3) * (3 : Int32)) + a1 < 0 then (some ((), σ)) else (if (18 : Int32) ≤ ((σ.1 1 3) * (3 : Int32)) + a1 then (some ((), σ)) else (z_gd (z_in (((σ.1 1 3) * (3 : Int32)) + a1) 18) (z_st (z_pt σ 3 (z_x (((σ.1 1 3) * (3 : Int32)) + a1)) (σ.1 1 4)) (fun s1 => some ((), s1)))))
theorem kX4_endPart   (a1 : Int32) (σ : z_Mem) (D : Nat) (hD : 1 ≤ D) : z_Call YC mX4_endPart D z_u [zR 1, zI a1] σ (fX4_endPart a1 σ) := by
  obtain ⟨D, rfl⟩ : ∃ E, D = E + 1 := ⟨D - 1, by omega⟩
  replace hD : 0 ≤ D := by omega
  refine z_entry (lv := [some (zR 1), some (zI a1), none]) (by decide) rfl (Nat.le_of_ble_eq_true rfl) rfl ?_
  rw [fX4_endPart]
  refine z_aload_n (pc := 0) dX4_endPart_0 rfl rfl ?_
  refine gfX4_3 (pc := 1) dX4_endPart_1 yc_1 w_6_14 rfl ?_
  refine z_iconst_3 (pc := 4) dX4_endPart_4 ?_
  refine z_imul (pc := 5) dX4_endPart_5 ?_
  refine z_iload_n (pc := 6) dX4_endPart_6 rfl rfl ?_
  refine z_iadd (pc := 7) dX4_endPart_7 ?_
  refine z_istore_n (pc := 8) dX4_endPart_8 rfl (Nat.le_of_ble_eq_true rfl) (z_so3_2 rfl) ?_
  refine z_iload_n (pc := 9) dX4_endPart_9 rfl rfl ?_
  refine z_if_lt (tgt := 32) (pc := 10) dX4_endPart_10 (by decide) (fun _ => ?_) (fun _ => ?_)
  · exact z_vret (pc := 32) dX4_endPart_32 rfl
  · refine z_iload_n (pc := 13) dX4_endPart_13 rfl rfl ?_
    refine z_aload_n (pc := 14) dX4_endPart_14 rfl rfl ?_
    refine gfX4_1 (pc := 15) dX4_endPart_15 yc_1 w_2_15 rfl ?_
    refine z_alen (v := 18) (pc := 18) dX4_endPart_18 yc_3 (by decide) ?_
    refine z_icmp_ge (tgt := 32) (pc := 19) dX4_endPart_19 (by decide) (fun _ => ?_) (fun _ => ?_)
    · exact z_vret (pc := 32) dX4_endPart_32 rfl
    · refine z_aload_n (pc := 22) dX4_endPart_22 rfl rfl ?_
      refine gfX4_1 (pc := 23) dX4_endPart_23 yc_1 w_2_15 rfl ?_
      refine z_iload_n (pc := 26) dX4_endPart_26 rfl rfl ?_
      refine z_aload_n (pc := 27) dX4_endPart_27 rfl rfl ?_
      refine gfX4_4 (pc := 28) dX4_endPart_28 yc_1 w_6_15 rfl ?_
      refine z_iast (pc := 31) dX4_endPart_31 yc_3 ?_
      refine z_let (fun s1 => ?_)
      exact z_vret (pc := 32) dX4_endPart_32 rfl
def fX4_done  (a1 : Int32) (a2 : Int32) (a3 : Int32) (σ : z_Mem) : Option (Int32 × z_Mem) :=
  if a1 = 42 then (some (a2 * a3, σ)) else if a1 = 43 then (some (a2 + a3, σ)) else if a1 = 45 then (some (a2 - a3, σ)) else if a1 = 60 then (if a3 ≤ a2 then (some ((0 : Int32), σ)) else (some ((1 : Int32), σ))) else if a1 = 61 then (if a2 = a3 then (some ((1 : Int32), σ)) else (some ((0 : Int32), σ))) else if a1 = 265 then (if a2 = 0 then (if a3 = 0 then (some ((0 : Int32), σ)) else (some ((1 : Int32), σ))) else (some ((1 : Int32), σ))) else if a1 = 266 then (if a2 = 0 then (some ((0 : Int32), σ)) else (if a3 = 0 then (some ((0 : Int32), σ)) else (some ((1 : Int32), σ)))) else if a1 = 267 then (if a2 = 0 then (some ((1 : Int32), σ)) else (some ((0 : Int32), σ))) else some (-a2, σ)
theorem kX4_done   (a1 : Int32) (a2 : Int32) (a3 : Int32) (σ : z_Mem) (D : Nat) (hD : 1 ≤ D) : z_Call YC mX4_done D z_i [zI a1, zI a2, zI a3] σ (fX4_done a1 a2 a3 σ) := by
  obtain ⟨D, rfl⟩ : ∃ E, D = E + 1 := ⟨D - 1, by omega⟩
  replace hD : 0 ≤ D := by omega
  refine z_entry (lv := [some (zI a1), some (zI a2), some (zI a3)]) (by decide) rfl (Nat.le_of_ble_eq_true rfl) rfl ?_
  rw [fX4_done]
  refine z_iload_n (pc := 0) dX4_done_0 rfl rfl ?_
  refine z_lswC (n := 42) (off := 83) (tgt := 84) (pc := 1) dX4_done_1 (by decide) (by decide) (by decide) ?_ (fun h0 => ?_)
  · refine z_iload_n (pc := 84) dX4_done_84 rfl rfl ?_
    refine z_iload_n (pc := 85) dX4_done_85 rfl rfl ?_
    refine z_imul (pc := 86) dX4_done_86 ?_
    exact z_iret (pc := 87) dX4_done_87 rfl rfl
  · refine z_lswC (n := 43) (off := 75) (tgt := 76) (pc := 1) dX4_done_1 (by decide) (by decide) (by decide) ?_ (fun h1 => ?_)
    · refine z_iload_n (pc := 76) dX4_done_76 rfl rfl ?_
      refine z_iload_n (pc := 77) dX4_done_77 rfl rfl ?_
      refine z_iadd (pc := 78) dX4_done_78 ?_
      exact z_iret (pc := 79) dX4_done_79 rfl rfl
    · refine z_lswC (n := 45) (off := 79) (tgt := 80) (pc := 1) dX4_done_1 (by decide) (by decide) (by decide) ?_ (fun h2 => ?_)
      · refine z_iload_n (pc := 80) dX4_done_80 rfl rfl ?_
        refine z_iload_n (pc := 81) dX4_done_81 rfl rfl ?_
        refine z_isub (pc := 82) dX4_done_82 ?_
        exact z_iret (pc := 83) dX4_done_83 rfl rfl
      · refine z_lswC (n := 60) (off := 87) (tgt := 88) (pc := 1) dX4_done_1 (by decide) (by decide) (by decide) ?_ (fun h3 => ?_)
        · refine z_iload_n (pc := 88) dX4_done_88 rfl rfl ?_
          refine z_iload_n (pc := 89) dX4_done_89 rfl rfl ?_
          refine z_icmp_ge (tgt := 97) (pc := 90) dX4_done_90 (by decide) (fun _ => ?_) (fun _ => ?_)
          · refine z_iconst_0 (pc := 97) dX4_done_97 ?_
            exact z_iret (pc := 98) dX4_done_98 rfl rfl
          · refine z_iconst_1 (pc := 93) dX4_done_93 ?_
            refine z_goto (tgt := 98) (pc := 94) dX4_done_94 (by decide) ?_
            exact z_iret (pc := 98) dX4_done_98 rfl rfl
        · refine z_lswC (n := 61) (off := 98) (tgt := 99) (pc := 1) dX4_done_1 (by decide) (by decide) (by decide) ?_ (fun h4 => ?_)
          · refine z_iload_n (pc := 99) dX4_done_99 rfl rfl ?_
            refine z_iload_n (pc := 100) dX4_done_100 rfl rfl ?_
            refine z_icmp_ne (tgt := 108) (pc := 101) dX4_done_101 (by decide) (fun _ => ?_) (fun _ => ?_)
            · refine z_iconst_0 (pc := 108) dX4_done_108 ?_
              exact z_iret (pc := 109) dX4_done_109 rfl rfl
            · refine z_iconst_1 (pc := 104) dX4_done_104 ?_
              refine z_goto (tgt := 109) (pc := 105) dX4_done_105 (by decide) ?_
              exact z_iret (pc := 109) dX4_done_109 rfl rfl
          · refine z_lswC (n := 265) (off := 109) (tgt := 110) (pc := 1) dX4_done_1 (by decide) (by decide) (by decide) ?_ (fun h5 => ?_)
            · refine z_iload_n (pc := 110) dX4_done_110 rfl rfl ?_
              refine z_if_ne (tgt := 118) (pc := 111) dX4_done_111 (by decide) (fun _ => ?_) (fun _ => ?_)
              · refine z_iconst_1 (pc := 118) dX4_done_118 ?_
                refine z_goto (tgt := 123) (pc := 119) dX4_done_119 (by decide) ?_
                exact z_iret (pc := 123) dX4_done_123 rfl rfl
              · refine z_iload_n (pc := 114) dX4_done_114 rfl rfl ?_
                refine z_if_eq (tgt := 122) (pc := 115) dX4_done_115 (by decide) (fun _ => ?_) (fun _ => ?_)
                · refine z_iconst_0 (pc := 122) dX4_done_122 ?_
                  exact z_iret (pc := 123) dX4_done_123 rfl rfl
                · refine z_iconst_1 (pc := 118) dX4_done_118 ?_
                  refine z_goto (tgt := 123) (pc := 119) dX4_done_119 (by decide) ?_
                  exact z_iret (pc := 123) dX4_done_123 rfl rfl
            · refine z_lswC (n := 266) (off := 123) (tgt := 124) (pc := 1) dX4_done_1 (by decide) (by decide) (by decide) ?_ (fun h6 => ?_)
              · refine z_iload_n (pc := 124) dX4_done_124 rfl rfl ?_
                refine z_if_eq (tgt := 136) (pc := 125) dX4_done_125 (by decide) (fun _ => ?_) (fun _ => ?_)
                · refine z_iconst_0 (pc := 136) dX4_done_136 ?_
                  exact z_iret (pc := 137) dX4_done_137 rfl rfl
                · refine z_iload_n (pc := 128) dX4_done_128 rfl rfl ?_
                  refine z_if_eq (tgt := 136) (pc := 129) dX4_done_129 (by decide) (fun _ => ?_) (fun _ => ?_)
                  · refine z_iconst_0 (pc := 136) dX4_done_136 ?_
                    exact z_iret (pc := 137) dX4_done_137 rfl rfl
                  · refine z_iconst_1 (pc := 132) dX4_done_132 ?_
                    refine z_goto (tgt := 137) (pc := 133) dX4_done_133 (by decide) ?_
                    exact z_iret (pc := 137) dX4_done_137 rfl rfl
              · refine z_lswC (n := 267) (off := 137) (tgt := 138) (pc := 1) dX4_done_1 (by decide) (by decide) (by decide) ?_ (fun h7 => ?_)
                · refine z_iload_n (pc := 138) dX4_done_138 rfl rfl ?_
                  refine z_if_ne (tgt := 146) (pc := 139) dX4_done_139 (by decide) (fun _ => ?_) (fun _ => ?_)
                  · refine z_iconst_0 (pc := 146) dX4_done_146 ?_
                    exact z_iret (pc := 147) dX4_done_147 rfl rfl
                  · refine z_iconst_1 (pc := 142) dX4_done_142 ?_
                    refine z_goto (tgt := 147) (pc := 143) dX4_done_143 (by decide) ?_
                    exact z_iret (pc := 147) dX4_done_147 rfl rfl
                · refine z_lsw (off := 147) (tgt := 148) (pc := 1) dX4_done_1 (by decide) ((lv_osw h0 rfl).trans ((lv_osw h1 rfl).trans ((lv_osw h2 rfl).trans ((lv_osw h3 rfl).trans ((lv_osw h4 rfl).trans ((lv_osw h5 rfl).trans ((lv_osw h6 rfl).trans ((lv_osw h7 rfl).trans (rfl))))))))) (by decide) ?_
                  refine z_iload_n (pc := 148) dX4_done_148 rfl rfl ?_
                  refine z_ineg (pc := 149) dX4_done_149 ?_
                  exact z_iret (pc := 150) dX4_done_150 rfl rfl
def fX4_value_90 (a2 : Nat) : Nat → Int32 → Int32 → Int32 → Int32 → Int32 → z_Mem → Option (Int32 × z_Mem)
  | 0, _, _, _, _, _, _ => none
  | q + 1, l3, l4, l7, l8, l9, σ => if l7 ≤ l9 then (z_gd (z_in (0 : Int32) 64) (some (σ.1 4 (z_x (0 : Int32)), σ))) else (z_gd (z_in l9 960) (if (20000 : Int32) ≤ σ.1 2 (z_x l9) then (if σ.1 2 (z_x l9) = (20003 : Int32) then (if (1 : Int32) ≤ l8 then (z_gd (z_in (l8 - (1 : Int32)) 64) (z_gd (z_in (((l8 - (1 : Int32)) + (1 : Int32)) - (1 : Int32)) 64) (z_bd (fX4_done ((σ.1 2 (z_x l9)) - (20000 : Int32)) (σ.1 4 (z_x (l8 - (1 : Int32)))) (σ.1 4 (z_x (((l8 - (1 : Int32)) + (1 : Int32)) - (1 : Int32)))) σ) (fun r1 s1 => z_gd (z_in (l8 - (1 : Int32)) 64) (z_st (z_pt s1 4 (z_x (l8 - (1 : Int32))) r1) (fun s2 => fX4_value_90 a2 q l3 l4 l7 ((l8 - (1 : Int32)) + 1) (l9 + 1) s2)))))) else (some ((0 : Int32), σ))) else (if σ.1 2 (z_x l9) = (20267 : Int32) then (if (1 : Int32) ≤ l8 then (z_gd (z_in (l8 - (1 : Int32)) 64) (z_gd (z_in (((l8 - (1 : Int32)) + (1 : Int32)) - (1 : Int32)) 64) (z_bd (fX4_done ((σ.1 2 (z_x l9)) - (20000 : Int32)) (σ.1 4 (z_x (l8 - (1 : Int32)))) (σ.1 4 (z_x (((l8 - (1 : Int32)) + (1 : Int32)) - (1 : Int32)))) σ) (fun r5 s5 => z_gd (z_in (l8 - (1 : Int32)) 64) (z_st (z_pt s5 4 (z_x (l8 - (1 : Int32))) r5) (fun s6 => fX4_value_90 a2 q l3 l4 l7 ((l8 - (1 : Int32)) + 1) (l9 + 1) s6)))))) else (some ((0 : Int32), σ))) else (if (2 : Int32) ≤ l8 then (z_gd (z_in (l8 - (2 : Int32)) 64) (z_gd (z_in (((l8 - (2 : Int32)) + (2 : Int32)) - (1 : Int32)) 64) (z_bd (fX4_done ((σ.1 2 (z_x l9)) - (20000 : Int32)) (σ.1 4 (z_x (l8 - (2 : Int32)))) (σ.1 4 (z_x (((l8 - (2 : Int32)) + (2 : Int32)) - (1 : Int32)))) σ) (fun r3 s3 => z_gd (z_in (l8 - (2 : Int32)) 64) (z_st (z_pt s3 4 (z_x (l8 - (2 : Int32))) r3) (fun s4 => fX4_value_90 a2 q l3 l4 l7 ((l8 - (2 : Int32)) + 1) (l9 + 1) s4)))))) else (some ((0 : Int32), σ))))) else (if l8 < (64 : Int32) then (if (10000 : Int32) ≤ σ.1 2 (z_x l9) then (z_bd (fX0_named a2 ((σ.1 2 (z_x l9)) - (10000 : Int32)) l3 l4 σ) (fun r7 s7 => z_gd (z_in l8 64) (z_st (z_pt s7 4 (z_x l8) r7) (fun s8 => fX4_value_90 a2 q l3 l4 l7 (l8 + 1) (l9 + 1) s8)))) else (z_gd (z_in l8 64) (z_st (z_pt σ 4 (z_x l8) (σ.1 2 (z_x l9))) (fun s9 => fX4_value_90 a2 q l3 l4 l7 (l8 + 1) (l9 + 1) s9)))) else (some ((0 : Int32), σ)))))
theorem kX4_value_90 (D : Nat) (a2 : Nat) (ha2 : z_lm a2) (hD : 1 ≤ D) : ∀ (q : Nat) (l3 : Int32) (l4 : Int32) (l7 : Int32) (l8 : Int32) (l9 : Int32)  (σ : z_Mem), z_Go YC mX4_value (D + 1) z_i 90 [some (zR 1), none, some (zR a2), some (zI l3), some (zI l4), none, none, some (zI l7), some (zI l8), some (zI l9), none, none] [] σ (fX4_value_90 a2 q l3 l4 l7 l8 l9 σ) := by
  intro q
  induction q with
  | zero => intros; exact z_none
  | succ q ih =>
    intro l3 l4 l7 l8 l9 σ
    rw [fX4_value_90]
    refine z_iload (pc := 90) dX4_value_90 rfl ?_
    refine z_iload (pc := 92) dX4_value_92 rfl ?_
    refine z_icmp_ge (tgt := 245) (pc := 94) dX4_value_94 (by decide) (fun _ => ?_) (fun _ => ?_)
    · refine z_aload_n (pc := 245) dX4_value_245 rfl rfl ?_
      refine gfX4_2 (pc := 246) dX4_value_246 yc_1 w_2_16 rfl ?_
      refine z_iconst_0 (pc := 249) dX4_value_249 ?_
      refine z_iald (pc := 250) dX4_value_250 yc_4 ?_
      exact z_iret (pc := 251) dX4_value_251 rfl rfl
    · refine z_aload_n (pc := 97) dX4_value_97 rfl rfl ?_
      refine gfX4_0 (pc := 98) dX4_value_98 yc_1 w_2_14 rfl ?_
      refine z_iload (pc := 101) dX4_value_101 rfl ?_
      refine z_iald (pc := 103) dX4_value_103 yc_2 ?_
      refine z_istore (pc := 104) dX4_value_104 (Nat.le_of_ble_eq_true rfl) (z_so12_10 rfl) ?_
      refine z_iload (pc := 106) dX4_value_106 rfl ?_
      refine z_sipush_20000 (pc := 108) dX4_value_108 ?_
      refine z_icmp_ge (tgt := 162) (pc := 111) dX4_value_111 (by decide) (fun _ => ?_) (fun _ => ?_)
      · refine z_iload (pc := 162) dX4_value_162 rfl ?_
        refine z_sipush_20003 (pc := 164) dX4_value_164 ?_
        refine z_icmp_eq (tgt := 178) (pc := 167) dX4_value_167 (by decide) (fun _ => ?_) (fun _ => ?_)
        · refine z_iconst_1 (pc := 178) dX4_value_178 ?_
          refine z_goto (tgt := 183) (pc := 179) dX4_value_179 (by decide) ?_
          refine z_istore (pc := 183) dX4_value_183 (Nat.le_of_ble_eq_true rfl) (z_so12_11 rfl) ?_
          refine z_iload (pc := 185) dX4_value_185 rfl ?_
          refine z_iload (pc := 187) dX4_value_187 rfl ?_
          refine z_icmp_ge (tgt := 194) (pc := 189) dX4_value_189 (by decide) (fun _ => ?_) (fun _ => ?_)
          · refine z_iload (pc := 194) dX4_value_194 rfl ?_
            refine z_iload (pc := 196) dX4_value_196 rfl ?_
            refine z_isub (pc := 198) dX4_value_198 ?_
            refine z_istore (pc := 199) dX4_value_199 (Nat.le_of_ble_eq_true rfl) (z_so12_8 rfl) ?_
            refine z_aload_n (pc := 201) dX4_value_201 rfl rfl ?_
            refine gfX4_2 (pc := 202) dX4_value_202 yc_1 w_2_16 rfl ?_
            refine z_iload (pc := 205) dX4_value_205 rfl ?_
            refine z_iload (pc := 207) dX4_value_207 rfl ?_
            refine z_sipush_20000 (pc := 209) dX4_value_209 ?_
            refine z_isub (pc := 212) dX4_value_212 ?_
            refine z_aload_n (pc := 213) dX4_value_213 rfl rfl ?_
            refine gfX4_2 (pc := 214) dX4_value_214 yc_1 w_2_16 rfl ?_
            refine z_iload (pc := 217) dX4_value_217 rfl ?_
            refine z_iald (pc := 219) dX4_value_219 yc_4 ?_
            refine z_aload_n (pc := 220) dX4_value_220 rfl rfl ?_
            refine gfX4_2 (pc := 221) dX4_value_221 yc_1 w_2_16 rfl ?_
            refine z_iload (pc := 224) dX4_value_224 rfl ?_
            refine z_iload (pc := 226) dX4_value_226 rfl ?_
            refine z_iadd (pc := 228) dX4_value_228 ?_
            refine z_iconst_1 (pc := 229) dX4_value_229 ?_
            refine z_isub (pc := 230) dX4_value_230 ?_
            refine z_iald (pc := 231) dX4_value_231 yc_4 ?_
            refine z_S3i (pc := 232) dX4_value_232 lSX4_43 (Nat.le_of_ble_eq_true rfl) (kX4_done ((σ.1 2 (z_x l9)) - (20000 : Int32)) (σ.1 4 (z_x (l8 - (1 : Int32)))) (σ.1 4 (z_x (((l8 - (1 : Int32)) + (1 : Int32)) - (1 : Int32)))) σ D (by omega)) (fun r1 s1 => ?_)
            refine z_iast (pc := 235) dX4_value_235 yc_4 ?_
            refine z_let (fun s2 => ?_)
            refine z_iinc (y := 1) (pc := 236) dX4_value_236 rfl (by decide) (Nat.le_of_ble_eq_true rfl) (z_so12_8 rfl) ?_
            refine z_iinc (y := 1) (pc := 239) dX4_value_239 rfl (by decide) (Nat.le_of_ble_eq_true rfl) (z_so12_9 rfl) ?_
            refine z_goto (tgt := 90) (pc := 242) dX4_value_242 (by decide) ?_
            exact z_weak (lv' := [some (zR 1), none, some (zR a2), some (zI l3), some (zI l4), none, none, some (zI l7), some (zI ((l8 - (1 : Int32)) + 1)), some (zI (l9 + 1)), none, none]) (z_sub_ok ⟨rfl, rfl, rfl, rfl, rfl, rfl, rfl, trivial⟩) (ih l3 l4 l7 ((l8 - (1 : Int32)) + 1) (l9 + 1) s2)
          · refine z_iconst_0 (pc := 192) dX4_value_192 ?_
            exact z_iret (pc := 193) dX4_value_193 rfl rfl
        · refine z_iload (pc := 170) dX4_value_170 rfl ?_
          refine z_sipush_20267 (pc := 172) dX4_value_172 ?_
          refine z_icmp_ne (tgt := 182) (pc := 175) dX4_value_175 (by decide) (fun _ => ?_) (fun _ => ?_)
          · refine z_iconst_2 (pc := 182) dX4_value_182 ?_
            refine z_istore (pc := 183) dX4_value_183 (Nat.le_of_ble_eq_true rfl) (z_so12_11 rfl) ?_
            refine z_iload (pc := 185) dX4_value_185 rfl ?_
            refine z_iload (pc := 187) dX4_value_187 rfl ?_
            refine z_icmp_ge (tgt := 194) (pc := 189) dX4_value_189 (by decide) (fun _ => ?_) (fun _ => ?_)
            · refine z_iload (pc := 194) dX4_value_194 rfl ?_
              refine z_iload (pc := 196) dX4_value_196 rfl ?_
              refine z_isub (pc := 198) dX4_value_198 ?_
              refine z_istore (pc := 199) dX4_value_199 (Nat.le_of_ble_eq_true rfl) (z_so12_8 rfl) ?_
              refine z_aload_n (pc := 201) dX4_value_201 rfl rfl ?_
              refine gfX4_2 (pc := 202) dX4_value_202 yc_1 w_2_16 rfl ?_
              refine z_iload (pc := 205) dX4_value_205 rfl ?_
              refine z_iload (pc := 207) dX4_value_207 rfl ?_
              refine z_sipush_20000 (pc := 209) dX4_value_209 ?_
              refine z_isub (pc := 212) dX4_value_212 ?_
              refine z_aload_n (pc := 213) dX4_value_213 rfl rfl ?_
              refine gfX4_2 (pc := 214) dX4_value_214 yc_1 w_2_16 rfl ?_
              refine z_iload (pc := 217) dX4_value_217 rfl ?_
              refine z_iald (pc := 219) dX4_value_219 yc_4 ?_
              refine z_aload_n (pc := 220) dX4_value_220 rfl rfl ?_
              refine gfX4_2 (pc := 221) dX4_value_221 yc_1 w_2_16 rfl ?_
              refine z_iload (pc := 224) dX4_value_224 rfl ?_
              refine z_iload (pc := 226) dX4_value_226 rfl ?_
              refine z_iadd (pc := 228) dX4_value_228 ?_
              refine z_iconst_1 (pc := 229) dX4_value_229 ?_
              refine z_isub (pc := 230) dX4_value_230 ?_
              refine z_iald (pc := 231) dX4_value_231 yc_4 ?_
              refine z_S3i (pc := 232) dX4_value_232 lSX4_43 (Nat.le_of_ble_eq_true rfl) (kX4_done ((σ.1 2 (z_x l9)) - (20000 : Int32)) (σ.1 4 (z_x (l8 - (2 : Int32)))) (σ.1 4 (z_x (((l8 - (2 : Int32)) + (2 : Int32)) - (1 : Int32)))) σ D (by omega)) (fun r3 s3 => ?_)
              refine z_iast (pc := 235) dX4_value_235 yc_4 ?_
              refine z_let (fun s4 => ?_)
              refine z_iinc (y := 1) (pc := 236) dX4_value_236 rfl (by decide) (Nat.le_of_ble_eq_true rfl) (z_so12_8 rfl) ?_
              refine z_iinc (y := 1) (pc := 239) dX4_value_239 rfl (by decide) (Nat.le_of_ble_eq_true rfl) (z_so12_9 rfl) ?_
              refine z_goto (tgt := 90) (pc := 242) dX4_value_242 (by decide) ?_
              exact z_weak (lv' := [some (zR 1), none, some (zR a2), some (zI l3), some (zI l4), none, none, some (zI l7), some (zI ((l8 - (2 : Int32)) + 1)), some (zI (l9 + 1)), none, none]) (z_sub_ok ⟨rfl, rfl, rfl, rfl, rfl, rfl, rfl, trivial⟩) (ih l3 l4 l7 ((l8 - (2 : Int32)) + 1) (l9 + 1) s4)
            · refine z_iconst_0 (pc := 192) dX4_value_192 ?_
              exact z_iret (pc := 193) dX4_value_193 rfl rfl
          · refine z_iconst_1 (pc := 178) dX4_value_178 ?_
            refine z_goto (tgt := 183) (pc := 179) dX4_value_179 (by decide) ?_
            refine z_istore (pc := 183) dX4_value_183 (Nat.le_of_ble_eq_true rfl) (z_so12_11 rfl) ?_
            refine z_iload (pc := 185) dX4_value_185 rfl ?_
            refine z_iload (pc := 187) dX4_value_187 rfl ?_
            refine z_icmp_ge (tgt := 194) (pc := 189) dX4_value_189 (by decide) (fun _ => ?_) (fun _ => ?_)
            · refine z_iload (pc := 194) dX4_value_194 rfl ?_
              refine z_iload (pc := 196) dX4_value_196 rfl ?_
              refine z_isub (pc := 198) dX4_value_198 ?_
              refine z_istore (pc := 199) dX4_value_199 (Nat.le_of_ble_eq_true rfl) (z_so12_8 rfl) ?_
              refine z_aload_n (pc := 201) dX4_value_201 rfl rfl ?_
              refine gfX4_2 (pc := 202) dX4_value_202 yc_1 w_2_16 rfl ?_
              refine z_iload (pc := 205) dX4_value_205 rfl ?_
              refine z_iload (pc := 207) dX4_value_207 rfl ?_
              refine z_sipush_20000 (pc := 209) dX4_value_209 ?_
              refine z_isub (pc := 212) dX4_value_212 ?_
              refine z_aload_n (pc := 213) dX4_value_213 rfl rfl ?_
              refine gfX4_2 (pc := 214) dX4_value_214 yc_1 w_2_16 rfl ?_
              refine z_iload (pc := 217) dX4_value_217 rfl ?_
              refine z_iald (pc := 219) dX4_value_219 yc_4 ?_
              refine z_aload_n (pc := 220) dX4_value_220 rfl rfl ?_
              refine gfX4_2 (pc := 221) dX4_value_221 yc_1 w_2_16 rfl ?_
              refine z_iload (pc := 224) dX4_value_224 rfl ?_
              refine z_iload (pc := 226) dX4_value_226 rfl ?_
              refine z_iadd (pc := 228) dX4_value_228 ?_
              refine z_iconst_1 (pc := 229) dX4_value_229 ?_
              refine z_isub (pc := 230) dX4_value_230 ?_
              refine z_iald (pc := 231) dX4_value_231 yc_4 ?_
              refine z_S3i (pc := 232) dX4_value_232 lSX4_43 (Nat.le_of_ble_eq_true rfl) (kX4_done ((σ.1 2 (z_x l9)) - (20000 : Int32)) (σ.1 4 (z_x (l8 - (1 : Int32)))) (σ.1 4 (z_x (((l8 - (1 : Int32)) + (1 : Int32)) - (1 : Int32)))) σ D (by omega)) (fun r5 s5 => ?_)
              refine z_iast (pc := 235) dX4_value_235 yc_4 ?_
              refine z_let (fun s6 => ?_)
              refine z_iinc (y := 1) (pc := 236) dX4_value_236 rfl (by decide) (Nat.le_of_ble_eq_true rfl) (z_so12_8 rfl) ?_
              refine z_iinc (y := 1) (pc := 239) dX4_value_239 rfl (by decide) (Nat.le_of_ble_eq_true rfl) (z_so12_9 rfl) ?_
              refine z_goto (tgt := 90) (pc := 242) dX4_value_242 (by decide) ?_
              exact z_weak (lv' := [some (zR 1), none, some (zR a2), some (zI l3), some (zI l4), none, none, some (zI l7), some (zI ((l8 - (1 : Int32)) + 1)), some (zI (l9 + 1)), none, none]) (z_sub_ok ⟨rfl, rfl, rfl, rfl, rfl, rfl, rfl, trivial⟩) (ih l3 l4 l7 ((l8 - (1 : Int32)) + 1) (l9 + 1) s6)
            · refine z_iconst_0 (pc := 192) dX4_value_192 ?_
              exact z_iret (pc := 193) dX4_value_193 rfl rfl
      · refine z_iload (pc := 114) dX4_value_114 rfl ?_
        refine z_bipush_64 (pc := 116) dX4_value_116 ?_
        refine z_icmp_lt (tgt := 123) (pc := 118) dX4_value_118 (by decide) (fun _ => ?_) (fun _ => ?_)
        · refine z_aload_n (pc := 123) dX4_value_123 rfl rfl ?_
          refine gfX4_2 (pc := 124) dX4_value_124 yc_1 w_2_16 rfl ?_
          refine z_iload (pc := 127) dX4_value_127 rfl ?_
          refine z_iload (pc := 129) dX4_value_129 rfl ?_
          refine z_sipush_10000 (pc := 131) dX4_value_131 ?_
          refine z_icmp_ge (tgt := 142) (pc := 134) dX4_value_134 (by decide) (fun _ => ?_) (fun _ => ?_)
          · refine z_aload_n (pc := 142) dX4_value_142 rfl rfl ?_
            refine z_iload (pc := 143) dX4_value_143 rfl ?_
            refine z_sipush_10000 (pc := 145) dX4_value_145 ?_
            refine z_isub (pc := 148) dX4_value_148 ?_
            refine z_iload_n (pc := 149) dX4_value_149 rfl rfl ?_
            refine z_iload (pc := 150) dX4_value_150 rfl ?_
            refine z_V3i (pc := 152) dX4_value_152 lVX4_39 ha2.1 rfl (Nat.le_of_ble_eq_true rfl) (kX0_named a2 ha2 ((σ.1 2 (z_x l9)) - (10000 : Int32)) l3 l4 σ D (by omega)) (fun r7 s7 => ?_)
            refine z_iast (pc := 155) dX4_value_155 yc_4 ?_
            refine z_let (fun s8 => ?_)
            refine z_iinc (y := 1) (pc := 156) dX4_value_156 rfl (by decide) (Nat.le_of_ble_eq_true rfl) (z_so12_8 rfl) ?_
            refine z_goto (tgt := 239) (pc := 159) dX4_value_159 (by decide) ?_
            refine z_iinc (y := 1) (pc := 239) dX4_value_239 rfl (by decide) (Nat.le_of_ble_eq_true rfl) (z_so12_9 rfl) ?_
            refine z_goto (tgt := 90) (pc := 242) dX4_value_242 (by decide) ?_
            exact z_weak (lv' := [some (zR 1), none, some (zR a2), some (zI l3), some (zI l4), none, none, some (zI l7), some (zI (l8 + 1)), some (zI (l9 + 1)), none, none]) (z_sub_ok ⟨rfl, rfl, rfl, rfl, rfl, rfl, rfl, trivial⟩) (ih l3 l4 l7 (l8 + 1) (l9 + 1) s8)
          · refine z_iload (pc := 137) dX4_value_137 rfl ?_
            refine z_goto (tgt := 155) (pc := 139) dX4_value_139 (by decide) ?_
            refine z_iast (pc := 155) dX4_value_155 yc_4 ?_
            refine z_let (fun s9 => ?_)
            refine z_iinc (y := 1) (pc := 156) dX4_value_156 rfl (by decide) (Nat.le_of_ble_eq_true rfl) (z_so12_8 rfl) ?_
            refine z_goto (tgt := 239) (pc := 159) dX4_value_159 (by decide) ?_
            refine z_iinc (y := 1) (pc := 239) dX4_value_239 rfl (by decide) (Nat.le_of_ble_eq_true rfl) (z_so12_9 rfl) ?_
            refine z_goto (tgt := 90) (pc := 242) dX4_value_242 (by decide) ?_
            exact z_weak (lv' := [some (zR 1), none, some (zR a2), some (zI l3), some (zI l4), none, none, some (zI l7), some (zI (l8 + 1)), some (zI (l9 + 1)), none, none]) (z_sub_ok ⟨rfl, rfl, rfl, rfl, rfl, rfl, rfl, trivial⟩) (ih l3 l4 l7 (l8 + 1) (l9 + 1) s9)
        · refine z_iconst_0 (pc := 121) dX4_value_121 ?_
          exact z_iret (pc := 122) dX4_value_122 rfl rfl
def fX4_value (a2 : Nat) (a1 : Int32) (a3 : Int32) (a4 : Int32) (σ : z_Mem) : Option (Int32 × z_Mem) :=
  if σ.1 a2 9 < 0 then (some ((0 : Int32), σ)) else (if σ.1 1 3 ≤ σ.1 a2 9 then (some ((0 : Int32), σ)) else (if (6 : Int32) ≤ σ.1 a2 9 then (some ((0 : Int32), σ)) else (if a1 < 0 then (some ((0 : Int32), σ)) else (if a1 < (3 : Int32) then (z_gd (z_in (((σ.1 a2 9) * (3 : Int32)) + a1) 18) (if a1 = 0 then (fX4_value_90 a2 z_FU a3 a4 (z_mn (σ.1 3 (z_x (((σ.1 a2 9) * (3 : Int32)) + a1))) (960 : Int32)) (0 : Int32) ((σ.1 a2 9) * (160 : Int32)) σ) else (z_gd (z_in ((((σ.1 a2 9) * (3 : Int32)) + a1) - (1 : Int32)) 18) (fX4_value_90 a2 z_FU a3 a4 (z_mn (σ.1 3 (z_x (((σ.1 a2 9) * (3 : Int32)) + a1))) (960 : Int32)) (0 : Int32) (σ.1 3 (z_x ((((σ.1 a2 9) * (3 : Int32)) + a1) - (1 : Int32)))) σ)))) else (some ((0 : Int32), σ))))))
theorem kX4_value (a2 : Nat) (ha2 : z_lm a2) (a1 : Int32) (a3 : Int32) (a4 : Int32) (σ : z_Mem) (D : Nat) (hD : 2 ≤ D) : z_Call YC mX4_value D z_i [zR 1, zI a1, zR a2, zI a3, zI a4] σ (fX4_value a2 a1 a3 a4 σ) := by
  obtain ⟨D, rfl⟩ : ∃ E, D = E + 1 := ⟨D - 1, by omega⟩
  replace hD : 1 ≤ D := by omega
  refine z_entry (lv := [some (zR 1), some (zI a1), some (zR a2), some (zI a3), some (zI a4), none, none, none, none, none, none, none]) (by decide) rfl (Nat.le_of_ble_eq_true rfl) rfl ?_
  rw [fX4_value]
  refine z_aload_n (pc := 0) dX4_value_0 rfl rfl ?_
  refine gfX0_9 (pc := 1) dX4_value_1 ha2.1 w_19_18 rfl ?_
  refine z_istore (pc := 4) dX4_value_4 (Nat.le_of_ble_eq_true rfl) (z_so12_5 rfl) ?_
  refine z_iload (pc := 6) dX4_value_6 rfl ?_
  refine z_if_lt (tgt := 36) (pc := 8) dX4_value_8 (by decide) (fun _ => ?_) (fun _ => ?_)
  · refine z_iconst_0 (pc := 36) dX4_value_36 ?_
    exact z_iret (pc := 37) dX4_value_37 rfl rfl
  · refine z_iload (pc := 11) dX4_value_11 rfl ?_
    refine z_aload_n (pc := 13) dX4_value_13 rfl rfl ?_
    refine gfX4_3 (pc := 14) dX4_value_14 yc_1 w_6_14 rfl ?_
    refine z_icmp_ge (tgt := 36) (pc := 17) dX4_value_17 (by decide) (fun _ => ?_) (fun _ => ?_)
    · refine z_iconst_0 (pc := 36) dX4_value_36 ?_
      exact z_iret (pc := 37) dX4_value_37 rfl rfl
    · refine z_iload (pc := 20) dX4_value_20 rfl ?_
      refine z_bipush_6 (pc := 22) dX4_value_22 ?_
      refine z_icmp_ge (tgt := 36) (pc := 24) dX4_value_24 (by decide) (fun _ => ?_) (fun _ => ?_)
      · refine z_iconst_0 (pc := 36) dX4_value_36 ?_
        exact z_iret (pc := 37) dX4_value_37 rfl rfl
      · refine z_iload_n (pc := 27) dX4_value_27 rfl rfl ?_
        refine z_if_lt (tgt := 36) (pc := 28) dX4_value_28 (by decide) (fun _ => ?_) (fun _ => ?_)
        · refine z_iconst_0 (pc := 36) dX4_value_36 ?_
          exact z_iret (pc := 37) dX4_value_37 rfl rfl
        · refine z_iload_n (pc := 31) dX4_value_31 rfl rfl ?_
          refine z_iconst_3 (pc := 32) dX4_value_32 ?_
          refine z_icmp_lt (tgt := 38) (pc := 33) dX4_value_33 (by decide) (fun _ => ?_) (fun _ => ?_)
          · refine z_iload (pc := 38) dX4_value_38 rfl ?_
            refine z_iconst_3 (pc := 40) dX4_value_40 ?_
            refine z_imul (pc := 41) dX4_value_41 ?_
            refine z_iload_n (pc := 42) dX4_value_42 rfl rfl ?_
            refine z_iadd (pc := 43) dX4_value_43 ?_
            refine z_istore (pc := 44) dX4_value_44 (Nat.le_of_ble_eq_true rfl) (z_so12_6 rfl) ?_
            refine z_aload_n (pc := 46) dX4_value_46 rfl rfl ?_
            refine gfX4_1 (pc := 47) dX4_value_47 yc_1 w_2_15 rfl ?_
            refine z_iload (pc := 50) dX4_value_50 rfl ?_
            refine z_iald (pc := 52) dX4_value_52 yc_3 ?_
            refine z_aload_n (pc := 53) dX4_value_53 rfl rfl ?_
            refine gfX4_0 (pc := 54) dX4_value_54 yc_1 w_2_14 rfl ?_
            refine z_alen (v := 960) (pc := 57) dX4_value_57 yc_2 (by decide) ?_
            refine z_min (pc := 58) rfl dX4_value_58 w_19_19 w_19_20 w_19_21 w_19_22 (fun _ => Nat.le_of_ble_eq_true rfl) ?_
            refine z_istore (pc := 61) dX4_value_61 (Nat.le_of_ble_eq_true rfl) (z_so12_7 rfl) ?_
            refine z_iconst_0 (pc := 63) dX4_value_63 ?_
            refine z_istore (pc := 64) dX4_value_64 (Nat.le_of_ble_eq_true rfl) (z_so12_8 rfl) ?_
            refine z_iload_n (pc := 66) dX4_value_66 rfl rfl ?_
            refine z_if_ne (tgt := 79) (pc := 67) dX4_value_67 (by decide) (fun _ => ?_) (fun _ => ?_)
            · refine z_aload_n (pc := 79) dX4_value_79 rfl rfl ?_
              refine gfX4_1 (pc := 80) dX4_value_80 yc_1 w_2_15 rfl ?_
              refine z_iload (pc := 83) dX4_value_83 rfl ?_
              refine z_iconst_1 (pc := 85) dX4_value_85 ?_
              refine z_isub (pc := 86) dX4_value_86 ?_
              refine z_iald (pc := 87) dX4_value_87 yc_3 ?_
              refine z_istore (pc := 88) dX4_value_88 (Nat.le_of_ble_eq_true rfl) (z_so12_9 rfl) ?_
              exact z_weak (lv' := [some (zR 1), none, some (zR a2), some (zI a3), some (zI a4), none, none, some (zI (z_mn (σ.1 3 (z_x (((σ.1 a2 9) * (3 : Int32)) + a1))) (960 : Int32))), some (zI (0 : Int32)), some (zI (σ.1 3 (z_x ((((σ.1 a2 9) * (3 : Int32)) + a1) - (1 : Int32))))), none, none]) (z_sub_ok ⟨rfl, rfl, rfl, rfl, rfl, rfl, rfl, trivial⟩) (kX4_value_90 D a2 ha2 hD z_FU a3 a4 (z_mn (σ.1 3 (z_x (((σ.1 a2 9) * (3 : Int32)) + a1))) (960 : Int32)) (0 : Int32) (σ.1 3 (z_x ((((σ.1 a2 9) * (3 : Int32)) + a1) - (1 : Int32)))) σ)
            · refine z_iload (pc := 70) dX4_value_70 rfl ?_
              refine z_sipush_160 (pc := 72) dX4_value_72 ?_
              refine z_imul (pc := 75) dX4_value_75 ?_
              refine z_goto (tgt := 88) (pc := 76) dX4_value_76 (by decide) ?_
              refine z_istore (pc := 88) dX4_value_88 (Nat.le_of_ble_eq_true rfl) (z_so12_9 rfl) ?_
              exact z_weak (lv' := [some (zR 1), none, some (zR a2), some (zI a3), some (zI a4), none, none, some (zI (z_mn (σ.1 3 (z_x (((σ.1 a2 9) * (3 : Int32)) + a1))) (960 : Int32))), some (zI (0 : Int32)), some (zI ((σ.1 a2 9) * (160 : Int32))), none, none]) (z_sub_ok ⟨rfl, rfl, rfl, rfl, rfl, rfl, rfl, trivial⟩) (kX4_value_90 D a2 ha2 hD z_FU a3 a4 (z_mn (σ.1 3 (z_x (((σ.1 a2 9) * (3 : Int32)) + a1))) (960 : Int32)) (0 : Int32) ((σ.1 a2 9) * (160 : Int32)) σ)
          · refine z_iconst_0 (pc := 36) dX4_value_36 ?_
            exact z_iret (pc := 37) dX4_value_37 rfl rfl
