def fX0_has (c : Nat) (a1 : Int32) (σ : z_Mem) : Option (Int32 × z_Mem) :=
  if a1 < 0 then (some ((0 : Int32), σ)) else (if σ.1 c 5 ≤ a1 then (some ((0 : Int32), σ)) else (if (6 : Int32) ≤ a1 then (some ((0 : Int32), σ)) else (some ((1 : Int32), σ))))
theorem kX0_has (c : Nat) (hc : z_lm c) (a1 : Int32) (σ : z_Mem) (D : Nat) (hD : 1 ≤ D) : z_Call YC mX0_has D z_i [zR c, zI a1] σ (fX0_has c a1 σ) := by
  obtain ⟨D, rfl⟩ : ∃ E, D = E + 1 := ⟨D - 1, by omega⟩
  replace hD : 0 ≤ D := by omega
  refine z_entry (lv := [some (zR c), some (zI a1)]) (by decide) rfl (Nat.le_of_ble_eq_true rfl) rfl ?_
  rw [fX0_has]
  refine z_iload_n (pc := 0) dX0_has_0 rfl rfl ?_
  refine z_if_lt (tgt := 22) (pc := 1) dX0_has_1 (by decide) (fun _ => ?_) (fun _ => ?_)
  · refine z_iconst_0 (pc := 22) dX0_has_22 ?_
    exact z_iret (pc := 23) dX0_has_23 rfl rfl
  · refine z_iload_n (pc := 4) dX0_has_4 rfl rfl ?_
    refine z_aload_n (pc := 5) dX0_has_5 rfl rfl ?_
    refine gfX0_5 (pc := 6) dX0_has_6 hc.1 w_11_15 rfl ?_
    refine z_icmp_ge (tgt := 22) (pc := 9) dX0_has_9 (by decide) (fun _ => ?_) (fun _ => ?_)
    · refine z_iconst_0 (pc := 22) dX0_has_22 ?_
      exact z_iret (pc := 23) dX0_has_23 rfl rfl
    · refine z_iload_n (pc := 12) dX0_has_12 rfl rfl ?_
      refine z_bipush_6 (pc := 13) dX0_has_13 ?_
      refine z_icmp_ge (tgt := 22) (pc := 15) dX0_has_15 (by decide) (fun _ => ?_) (fun _ => ?_)
      · refine z_iconst_0 (pc := 22) dX0_has_22 ?_
        exact z_iret (pc := 23) dX0_has_23 rfl rfl
      · refine z_iconst_1 (pc := 18) dX0_has_18 ?_
        refine z_goto (tgt := 23) (pc := 19) dX0_has_19 (by decide) ?_
        exact z_iret (pc := 23) dX0_has_23 rfl rfl
def fX0_who (c : Nat) (a1 : Int32) (σ : z_Mem) : Option (Int32 × z_Mem) :=
  if a1 < 0 then (some ((-1 : Int32), σ)) else (if σ.1 c 6 ≤ a1 then (some ((-1 : Int32), σ)) else (if (6 : Int32) ≤ a1 then (some ((-1 : Int32), σ)) else (z_gd (z_in a1 6) (some (σ.1 (c + 4) (z_x a1), σ)))))
theorem kX0_who (c : Nat) (hc : z_lm c) (a1 : Int32) (σ : z_Mem) (D : Nat) (hD : 1 ≤ D) : z_Call YC mX0_who D z_i [zR c, zI a1] σ (fX0_who c a1 σ) := by
  obtain ⟨D, rfl⟩ : ∃ E, D = E + 1 := ⟨D - 1, by omega⟩
  replace hD : 0 ≤ D := by omega
  refine z_entry (lv := [some (zR c), some (zI a1)]) (by decide) rfl (Nat.le_of_ble_eq_true rfl) rfl ?_
  rw [fX0_who]
  refine z_iload_n (pc := 0) dX0_who_0 rfl rfl ?_
  refine z_if_lt (tgt := 27) (pc := 1) dX0_who_1 (by decide) (fun _ => ?_) (fun _ => ?_)
  · refine z_iconst_m1 (pc := 27) dX0_who_27 ?_
    exact z_iret (pc := 28) dX0_who_28 rfl rfl
  · refine z_iload_n (pc := 4) dX0_who_4 rfl rfl ?_
    refine z_aload_n (pc := 5) dX0_who_5 rfl rfl ?_
    refine gfX0_6 (pc := 6) dX0_who_6 hc.1 w_18_14 rfl ?_
    refine z_icmp_ge (tgt := 27) (pc := 9) dX0_who_9 (by decide) (fun _ => ?_) (fun _ => ?_)
    · refine z_iconst_m1 (pc := 27) dX0_who_27 ?_
      exact z_iret (pc := 28) dX0_who_28 rfl rfl
    · refine z_iload_n (pc := 12) dX0_who_12 rfl rfl ?_
      refine z_bipush_6 (pc := 13) dX0_who_13 ?_
      refine z_icmp_ge (tgt := 27) (pc := 15) dX0_who_15 (by decide) (fun _ => ?_) (fun _ => ?_)
      · refine z_iconst_m1 (pc := 27) dX0_who_27 ?_
        exact z_iret (pc := 28) dX0_who_28 rfl rfl
      · refine z_aload_n (pc := 18) dX0_who_18 rfl rfl ?_
        refine gfX0_4 (pc := 19) dX0_who_19 hc.1 w_3_6 rfl ?_
        refine z_iload_n (pc := 22) dX0_who_22 rfl rfl ?_
        refine z_iald (pc := 23) dX0_who_23 hc.2.2.2.2 ?_
        refine z_goto (tgt := 28) (pc := 24) dX0_who_24 (by decide) ?_
        exact z_iret (pc := 28) dX0_who_28 rfl rfl
def fX0_placeOf_2 (c : Nat) : Nat → Int32 → Int32 → z_Mem → Option (Int32 × z_Mem)
  | 0, _, _, _ => none
  | q + 1, l1, l2, σ => if σ.1 c 6 ≤ l2 then (some ((-1 : Int32), σ)) else (if (6 : Int32) ≤ l2 then (some ((-1 : Int32), σ)) else (z_gd (z_in l2 6) (if σ.1 (c + 4) (z_x l2) = l1 then (some (l2, σ)) else (fX0_placeOf_2 c q l1 (l2 + 1) σ))))
theorem kX0_placeOf_2 (D : Nat) (c : Nat) (hc : z_lm c) (hD : 0 ≤ D) : ∀ (q : Nat) (l1 : Int32) (l2 : Int32)  (σ : z_Mem), z_Go YC mX0_placeOf (D + 1) z_i 2 [some (zR c), some (zI l1), some (zI l2)] [] σ (fX0_placeOf_2 c q l1 l2 σ) := by
  intro q
  induction q with
  | zero => intros; exact z_none
  | succ q ih =>
    intro l1 l2 σ
    rw [fX0_placeOf_2]
    refine z_iload_n (pc := 2) dX0_placeOf_2 rfl rfl ?_
    refine z_aload_n (pc := 3) dX0_placeOf_3 rfl rfl ?_
    refine gfX0_6 (pc := 4) dX0_placeOf_4 hc.1 w_18_14 rfl ?_
    refine z_icmp_ge (tgt := 34) (pc := 7) dX0_placeOf_7 (by decide) (fun _ => ?_) (fun _ => ?_)
    · refine z_iconst_m1 (pc := 34) dX0_placeOf_34 ?_
      exact z_iret (pc := 35) dX0_placeOf_35 rfl rfl
    · refine z_iload_n (pc := 10) dX0_placeOf_10 rfl rfl ?_
      refine z_bipush_6 (pc := 11) dX0_placeOf_11 ?_
      refine z_icmp_ge (tgt := 34) (pc := 13) dX0_placeOf_13 (by decide) (fun _ => ?_) (fun _ => ?_)
      · refine z_iconst_m1 (pc := 34) dX0_placeOf_34 ?_
        exact z_iret (pc := 35) dX0_placeOf_35 rfl rfl
      · refine z_aload_n (pc := 16) dX0_placeOf_16 rfl rfl ?_
        refine gfX0_4 (pc := 17) dX0_placeOf_17 hc.1 w_3_6 rfl ?_
        refine z_iload_n (pc := 20) dX0_placeOf_20 rfl rfl ?_
        refine z_iald (pc := 21) dX0_placeOf_21 hc.2.2.2.2 ?_
        refine z_iload_n (pc := 22) dX0_placeOf_22 rfl rfl ?_
        refine z_icmp_ne (tgt := 28) (pc := 23) dX0_placeOf_23 (by decide) (fun _ => ?_) (fun _ => ?_)
        · refine z_iinc (y := 1) (pc := 28) dX0_placeOf_28 rfl (by decide) (Nat.le_of_ble_eq_true rfl) (z_so3_2 rfl) ?_
          refine z_goto (tgt := 2) (pc := 31) dX0_placeOf_31 (by decide) ?_
          exact ih l1 (l2 + 1) σ
        · refine z_iload_n (pc := 26) dX0_placeOf_26 rfl rfl ?_
          exact z_iret (pc := 27) dX0_placeOf_27 rfl rfl
def fX0_placeOf (c : Nat) (a1 : Int32) (σ : z_Mem) : Option (Int32 × z_Mem) :=
  fX0_placeOf_2 c z_FU a1 (0 : Int32) σ
theorem kX0_placeOf (c : Nat) (hc : z_lm c) (a1 : Int32) (σ : z_Mem) (D : Nat) (hD : 1 ≤ D) : z_Call YC mX0_placeOf D z_i [zR c, zI a1] σ (fX0_placeOf c a1 σ) := by
  obtain ⟨D, rfl⟩ : ∃ E, D = E + 1 := ⟨D - 1, by omega⟩
  replace hD : 0 ≤ D := by omega
  refine z_entry (lv := [some (zR c), some (zI a1), none]) (by decide) rfl (Nat.le_of_ble_eq_true rfl) rfl ?_
  rw [fX0_placeOf]
  refine z_iconst_0 (pc := 0) dX0_placeOf_0 ?_
  refine z_istore_n (pc := 1) dX0_placeOf_1 rfl (Nat.le_of_ble_eq_true rfl) (z_so3_2 rfl) ?_
  exact kX0_placeOf_2 D c hc hD z_FU a1 (0 : Int32) σ
def fX0_placeBehind (c : Nat) (a1 : Int32) (σ : z_Mem) : Option (Int32 × z_Mem) :=
  if σ.1 c 6 ≤ a1 + (1 : Int32) then (some ((0 : Int32), σ)) else (some (a1 + (1 : Int32), σ))
theorem kX0_placeBehind (c : Nat) (hc : z_lm c) (a1 : Int32) (σ : z_Mem) (D : Nat) (hD : 1 ≤ D) : z_Call YC mX0_placeBehind D z_i [zR c, zI a1] σ (fX0_placeBehind c a1 σ) := by
  obtain ⟨D, rfl⟩ : ∃ E, D = E + 1 := ⟨D - 1, by omega⟩
  replace hD : 0 ≤ D := by omega
  refine z_entry (lv := [some (zR c), some (zI a1)]) (by decide) rfl (Nat.le_of_ble_eq_true rfl) rfl ?_
  rw [fX0_placeBehind]
  refine z_iload_n (pc := 0) dX0_placeBehind_0 rfl rfl ?_
  refine z_iconst_1 (pc := 1) dX0_placeBehind_1 ?_
  refine z_iadd (pc := 2) dX0_placeBehind_2 ?_
  refine z_aload_n (pc := 3) dX0_placeBehind_3 rfl rfl ?_
  refine gfX0_6 (pc := 4) dX0_placeBehind_4 hc.1 w_18_14 rfl ?_
  refine z_icmp_ge (tgt := 16) (pc := 7) dX0_placeBehind_7 (by decide) (fun _ => ?_) (fun _ => ?_)
  · refine z_iconst_0 (pc := 16) dX0_placeBehind_16 ?_
    exact z_iret (pc := 17) dX0_placeBehind_17 rfl rfl
  · refine z_iload_n (pc := 10) dX0_placeBehind_10 rfl rfl ?_
    refine z_iconst_1 (pc := 11) dX0_placeBehind_11 ?_
    refine z_iadd (pc := 12) dX0_placeBehind_12 ?_
    refine z_goto (tgt := 17) (pc := 13) dX0_placeBehind_13 (by decide) ?_
    exact z_iret (pc := 17) dX0_placeBehind_17 rfl rfl
def fX0_holds (c : Nat)  (σ : z_Mem) : Option (Int32 × z_Mem) :=
  if (2 : Int32) ≤ σ.1 c 6 then (some (σ.1 c 6, σ)) else (some ((0 : Int32), σ))
theorem kX0_holds (c : Nat) (hc : z_lm c)  (σ : z_Mem) (D : Nat) (hD : 1 ≤ D) : z_Call YC mX0_holds D z_i [zR c] σ (fX0_holds c σ) := by
  obtain ⟨D, rfl⟩ : ∃ E, D = E + 1 := ⟨D - 1, by omega⟩
  replace hD : 0 ≤ D := by omega
  refine z_entry (lv := [some (zR c)]) (by decide) rfl (Nat.le_of_ble_eq_true rfl) rfl ?_
  rw [fX0_holds]
  refine z_aload_n (pc := 0) dX0_holds_0 rfl rfl ?_
  refine gfX0_6 (pc := 1) dX0_holds_1 hc.1 w_18_14 rfl ?_
  refine z_iconst_2 (pc := 4) dX0_holds_4 ?_
  refine z_icmp_ge (tgt := 12) (pc := 5) dX0_holds_5 (by decide) (fun _ => ?_) (fun _ => ?_)
  · refine z_aload_n (pc := 12) dX0_holds_12 rfl rfl ?_
    refine gfX0_6 (pc := 13) dX0_holds_13 hc.1 w_18_14 rfl ?_
    exact z_iret (pc := 16) dX0_holds_16 rfl rfl
  · refine z_iconst_0 (pc := 8) dX0_holds_8 ?_
    refine z_goto (tgt := 16) (pc := 9) dX0_holds_9 (by decide) ?_
    exact z_iret (pc := 16) dX0_holds_16 rfl rfl
def fX0_leave_34 (c : Nat) : Nat → Int32 → z_Mem → Option (Unit × z_Mem)
  | 0, _, _ => none
  | q + 1, l2, σ => if σ.1 c 6 ≤ l2 then (some ((), σ)) else (z_gd (z_in (l2 + (1 : Int32)) 6) (z_gd (z_in l2 6) (z_st (z_pt σ (c + 4) (z_x l2) (σ.1 (c + 4) (z_x (l2 + (1 : Int32))))) (fun s2 => fX0_leave_34 c q (l2 + 1) s2))))
theorem kX0_leave_34 (D : Nat) (c : Nat) (hc : z_lm c) (hD : 0 ≤ D) : ∀ (q : Nat) (l2 : Int32)  (σ : z_Mem), z_Go YC mX0_leave (D + 1) z_u 34 [some (zR c), none, some (zI l2)] [] σ (fX0_leave_34 c q l2 σ) := by
  intro q
  induction q with
  | zero => intros; exact z_none
  | succ q ih =>
    intro l2 σ
    rw [fX0_leave_34]
    refine z_iload_n (pc := 34) dX0_leave_34 rfl rfl ?_
    refine z_aload_n (pc := 35) dX0_leave_35 rfl rfl ?_
    refine gfX0_6 (pc := 36) dX0_leave_36 hc.1 w_18_14 rfl ?_
    refine z_icmp_ge (tgt := 62) (pc := 39) dX0_leave_39 (by decide) (fun _ => ?_) (fun _ => ?_)
    · exact z_vret (pc := 62) dX0_leave_62 rfl
    · refine z_aload_n (pc := 42) dX0_leave_42 rfl rfl ?_
      refine gfX0_4 (pc := 43) dX0_leave_43 hc.1 w_3_6 rfl ?_
      refine z_iload_n (pc := 46) dX0_leave_46 rfl rfl ?_
      refine z_aload_n (pc := 47) dX0_leave_47 rfl rfl ?_
      refine gfX0_4 (pc := 48) dX0_leave_48 hc.1 w_3_6 rfl ?_
      refine z_iload_n (pc := 51) dX0_leave_51 rfl rfl ?_
      refine z_iconst_1 (pc := 52) dX0_leave_52 ?_
      refine z_iadd (pc := 53) dX0_leave_53 ?_
      refine z_iald (pc := 54) dX0_leave_54 hc.2.2.2.2 ?_
      refine z_iast (pc := 55) dX0_leave_55 hc.2.2.2.2 ?_
      refine z_let (fun s2 => ?_)
      refine z_iinc (y := 1) (pc := 56) dX0_leave_56 rfl (by decide) (Nat.le_of_ble_eq_true rfl) (z_so3_2 rfl) ?_
      refine z_goto (tgt := 34) (pc := 59) dX0_leave_59 (by decide) ?_
      exact ih (l2 + 1) s2
def fX0_leave (c : Nat) (a1 : Int32) (σ : z_Mem) : Option (Unit × z_Mem) :=
  if a1 < 0 then (some ((), σ)) else (if σ.1 c 6 ≤ a1 then (some ((), σ)) else (if σ.1 c 6 ≤ (6 : Int32) then (z_st (z_pt σ c 6 ((σ.1 c 6) - (1 : Int32))) (fun s1 => fX0_leave_34 c z_FU a1 s1)) else (some ((), σ))))
theorem kX0_leave (c : Nat) (hc : z_lm c) (a1 : Int32) (σ : z_Mem) (D : Nat) (hD : 1 ≤ D) : z_Call YC mX0_leave D z_u [zR c, zI a1] σ (fX0_leave c a1 σ) := by
  obtain ⟨D, rfl⟩ : ∃ E, D = E + 1 := ⟨D - 1, by omega⟩
  replace hD : 0 ≤ D := by omega
  refine z_entry (lv := [some (zR c), some (zI a1), none]) (by decide) rfl (Nat.le_of_ble_eq_true rfl) rfl ?_
  rw [fX0_leave]
  refine z_iload_n (pc := 0) dX0_leave_0 rfl rfl ?_
  refine z_if_lt (tgt := 21) (pc := 1) dX0_leave_1 (by decide) (fun _ => ?_) (fun _ => ?_)
  · exact z_vret (pc := 21) dX0_leave_21 rfl
  · refine z_iload_n (pc := 4) dX0_leave_4 rfl rfl ?_
    refine z_aload_n (pc := 5) dX0_leave_5 rfl rfl ?_
    refine gfX0_6 (pc := 6) dX0_leave_6 hc.1 w_18_14 rfl ?_
    refine z_icmp_ge (tgt := 21) (pc := 9) dX0_leave_9 (by decide) (fun _ => ?_) (fun _ => ?_)
    · exact z_vret (pc := 21) dX0_leave_21 rfl
    · refine z_aload_n (pc := 12) dX0_leave_12 rfl rfl ?_
      refine gfX0_6 (pc := 13) dX0_leave_13 hc.1 w_18_14 rfl ?_
      refine z_bipush_6 (pc := 16) dX0_leave_16 ?_
      refine z_icmp_le (tgt := 22) (pc := 18) dX0_leave_18 (by decide) (fun _ => ?_) (fun _ => ?_)
      · refine z_aload_n (pc := 22) dX0_leave_22 rfl rfl ?_
        refine z_dup (pc := 23) dX0_leave_23 rfl ?_
        refine gfX0_6 (pc := 24) dX0_leave_24 hc.1 w_18_14 rfl ?_
        refine z_iconst_1 (pc := 27) dX0_leave_27 ?_
        refine z_isub (pc := 28) dX0_leave_28 ?_
        refine pfX0_6 (pc := 29) dX0_leave_29 hc.1 w_18_14 rfl ?_
        refine z_let (fun s1 => ?_)
        refine z_iload_n (pc := 32) dX0_leave_32 rfl rfl ?_
        refine z_istore_n (pc := 33) dX0_leave_33 rfl (Nat.le_of_ble_eq_true rfl) (z_so3_2 rfl) ?_
        exact z_weak (lv' := [some (zR c), none, some (zI a1)]) (z_sub_ok ⟨rfl, rfl, trivial⟩) (kX0_leave_34 D c hc hD z_FU a1 s1)
      · exact z_vret (pc := 21) dX0_leave_21 rfl
def fX0_enter_27 (c : Nat) : Nat → Int32 → Int32 → Int32 → z_Mem → Option (Unit × z_Mem)
  | 0, _, _, _, _ => none
  | q + 1, l1, l2, l3, σ => if l3 ≤ l2 then (z_gd (z_in l2 6) (z_st (z_pt σ (c + 4) (z_x l2) l1) (fun s1 => z_st (z_pt s1 c 6 ((s1.1 c 6) + (1 : Int32))) (fun s2 => some ((), s2))))) else (z_gd (z_in (l3 - (1 : Int32)) 6) (z_gd (z_in l3 6) (z_st (z_pt σ (c + 4) (z_x l3) (σ.1 (c + 4) (z_x (l3 - (1 : Int32))))) (fun s3 => fX0_enter_27 c q l1 l2 (l3 + (-1 : Int32)) s3))))
theorem kX0_enter_27 (D : Nat) (c : Nat) (hc : z_lm c) (hD : 0 ≤ D) : ∀ (q : Nat) (l1 : Int32) (l2 : Int32) (l3 : Int32)  (σ : z_Mem), z_Go YC mX0_enter (D + 1) z_u 27 [some (zR c), some (zI l1), some (zI l2), some (zI l3)] [] σ (fX0_enter_27 c q l1 l2 l3 σ) := by
  intro q
  induction q with
  | zero => intros; exact z_none
  | succ q ih =>
    intro l1 l2 l3 σ
    rw [fX0_enter_27]
    refine z_iload_n (pc := 27) dX0_enter_27 rfl rfl ?_
    refine z_iload_n (pc := 28) dX0_enter_28 rfl rfl ?_
    refine z_icmp_le (tgt := 52) (pc := 29) dX0_enter_29 (by decide) (fun _ => ?_) (fun _ => ?_)
    · refine z_aload_n (pc := 52) dX0_enter_52 rfl rfl ?_
      refine gfX0_4 (pc := 53) dX0_enter_53 hc.1 w_3_6 rfl ?_
      refine z_iload_n (pc := 56) dX0_enter_56 rfl rfl ?_
      refine z_iload_n (pc := 57) dX0_enter_57 rfl rfl ?_
      refine z_iast (pc := 58) dX0_enter_58 hc.2.2.2.2 ?_
      refine z_let (fun s1 => ?_)
      refine z_aload_n (pc := 59) dX0_enter_59 rfl rfl ?_
      refine z_dup (pc := 60) dX0_enter_60 rfl ?_
      refine gfX0_6 (pc := 61) dX0_enter_61 hc.1 w_18_14 rfl ?_
      refine z_iconst_1 (pc := 64) dX0_enter_64 ?_
      refine z_iadd (pc := 65) dX0_enter_65 ?_
      refine pfX0_6 (pc := 66) dX0_enter_66 hc.1 w_18_14 rfl ?_
      refine z_let (fun s2 => ?_)
      exact z_vret (pc := 69) dX0_enter_69 rfl
    · refine z_aload_n (pc := 32) dX0_enter_32 rfl rfl ?_
      refine gfX0_4 (pc := 33) dX0_enter_33 hc.1 w_3_6 rfl ?_
      refine z_iload_n (pc := 36) dX0_enter_36 rfl rfl ?_
      refine z_aload_n (pc := 37) dX0_enter_37 rfl rfl ?_
      refine gfX0_4 (pc := 38) dX0_enter_38 hc.1 w_3_6 rfl ?_
      refine z_iload_n (pc := 41) dX0_enter_41 rfl rfl ?_
      refine z_iconst_1 (pc := 42) dX0_enter_42 ?_
      refine z_isub (pc := 43) dX0_enter_43 ?_
      refine z_iald (pc := 44) dX0_enter_44 hc.2.2.2.2 ?_
      refine z_iast (pc := 45) dX0_enter_45 hc.2.2.2.2 ?_
      refine z_let (fun s3 => ?_)
      refine z_iinc (y := -1) (pc := 46) dX0_enter_46 rfl (by decide) (Nat.le_of_ble_eq_true rfl) (z_so4_3 rfl) ?_
      refine z_goto (tgt := 27) (pc := 49) dX0_enter_49 (by decide) ?_
      exact ih l1 l2 (l3 + (-1 : Int32)) s3
def fX0_enter (c : Nat) (a1 : Int32) (a2 : Int32) (σ : z_Mem) : Option (Unit × z_Mem) :=
  if a2 < 0 then (some ((), σ)) else (if σ.1 c 6 < a2 then (some ((), σ)) else (if σ.1 c 6 < (6 : Int32) then (fX0_enter_27 c z_FU a1 a2 (σ.1 c 6) σ) else (some ((), σ))))
theorem kX0_enter (c : Nat) (hc : z_lm c) (a1 : Int32) (a2 : Int32) (σ : z_Mem) (D : Nat) (hD : 1 ≤ D) : z_Call YC mX0_enter D z_u [zR c, zI a1, zI a2] σ (fX0_enter c a1 a2 σ) := by
  obtain ⟨D, rfl⟩ : ∃ E, D = E + 1 := ⟨D - 1, by omega⟩
  replace hD : 0 ≤ D := by omega
  refine z_entry (lv := [some (zR c), some (zI a1), some (zI a2), none]) (by decide) rfl (Nat.le_of_ble_eq_true rfl) rfl ?_
  rw [fX0_enter]
  refine z_iload_n (pc := 0) dX0_enter_0 rfl rfl ?_
  refine z_if_lt (tgt := 21) (pc := 1) dX0_enter_1 (by decide) (fun _ => ?_) (fun _ => ?_)
  · exact z_vret (pc := 21) dX0_enter_21 rfl
  · refine z_iload_n (pc := 4) dX0_enter_4 rfl rfl ?_
    refine z_aload_n (pc := 5) dX0_enter_5 rfl rfl ?_
    refine gfX0_6 (pc := 6) dX0_enter_6 hc.1 w_18_14 rfl ?_
    refine z_icmp_gt (tgt := 21) (pc := 9) dX0_enter_9 (by decide) (fun _ => ?_) (fun _ => ?_)
    · exact z_vret (pc := 21) dX0_enter_21 rfl
    · refine z_aload_n (pc := 12) dX0_enter_12 rfl rfl ?_
      refine gfX0_6 (pc := 13) dX0_enter_13 hc.1 w_18_14 rfl ?_
      refine z_bipush_6 (pc := 16) dX0_enter_16 ?_
      refine z_icmp_lt (tgt := 22) (pc := 18) dX0_enter_18 (by decide) (fun _ => ?_) (fun _ => ?_)
      · refine z_aload_n (pc := 22) dX0_enter_22 rfl rfl ?_
        refine gfX0_6 (pc := 23) dX0_enter_23 hc.1 w_18_14 rfl ?_
        refine z_istore_n (pc := 26) dX0_enter_26 rfl (Nat.le_of_ble_eq_true rfl) (z_so4_3 rfl) ?_
        exact kX0_enter_27 D c hc hD z_FU a1 a2 (σ.1 c 6) σ
      · exact z_vret (pc := 21) dX0_enter_21 rfl
def fX0_exchange (c : Nat) (a1 : Int32) (a2 : Int32) (σ : z_Mem) : Option (Unit × z_Mem) :=
  z_bd (fX0_who c a1 σ) (fun r1 s1 => z_bd (fX0_who c a2 s1) (fun r2 s2 => if r1 = (-1 : Int32) then (some ((), s2)) else (if r2 = (-1 : Int32) then (some ((), s2)) else (z_gd (z_in a1 6) (z_st (z_pt s2 (c + 4) (z_x a1) r2) (fun s3 => z_gd (z_in a2 6) (z_st (z_pt s3 (c + 4) (z_x a2) r1) (fun s4 => some ((), s4)))))))))
theorem kX0_exchange (c : Nat) (hc : z_lm c) (a1 : Int32) (a2 : Int32) (σ : z_Mem) (D : Nat) (hD : 2 ≤ D) : z_Call YC mX0_exchange D z_u [zR c, zI a1, zI a2] σ (fX0_exchange c a1 a2 σ) := by
  obtain ⟨D, rfl⟩ : ∃ E, D = E + 1 := ⟨D - 1, by omega⟩
  replace hD : 1 ≤ D := by omega
  refine z_entry (lv := [some (zR c), some (zI a1), some (zI a2), none, none]) (by decide) rfl (Nat.le_of_ble_eq_true rfl) rfl ?_
  rw [fX0_exchange]
  refine z_aload_n (pc := 0) dX0_exchange_0 rfl rfl ?_
  refine z_iload_n (pc := 1) dX0_exchange_1 rfl rfl ?_
  refine z_V1i (pc := 2) dX0_exchange_2 lVX0_58 hc.1 rfl (Nat.le_of_ble_eq_true rfl) (kX0_who c hc a1 σ D (by omega)) (fun r1 s1 => ?_)
  refine z_istore_n (pc := 5) dX0_exchange_5 rfl (Nat.le_of_ble_eq_true rfl) (z_so5_3 rfl) ?_
  refine z_aload_n (pc := 6) dX0_exchange_6 rfl rfl ?_
  refine z_iload_n (pc := 7) dX0_exchange_7 rfl rfl ?_
  refine z_V1i (pc := 8) dX0_exchange_8 lVX0_58 hc.1 rfl (Nat.le_of_ble_eq_true rfl) (kX0_who c hc a2 s1 D (by omega)) (fun r2 s2 => ?_)
  refine z_istore (pc := 11) dX0_exchange_11 (Nat.le_of_ble_eq_true rfl) (z_so5_4 rfl) ?_
  refine z_iload_n (pc := 13) dX0_exchange_13 rfl rfl ?_
  refine z_iconst_m1 (pc := 14) dX0_exchange_14 ?_
  refine z_icmp_eq (tgt := 39) (pc := 15) dX0_exchange_15 (by decide) (fun _ => ?_) (fun _ => ?_)
  · exact z_vret (pc := 39) dX0_exchange_39 rfl
  · refine z_iload (pc := 18) dX0_exchange_18 rfl ?_
    refine z_iconst_m1 (pc := 20) dX0_exchange_20 ?_
    refine z_icmp_eq (tgt := 39) (pc := 21) dX0_exchange_21 (by decide) (fun _ => ?_) (fun _ => ?_)
    · exact z_vret (pc := 39) dX0_exchange_39 rfl
    · refine z_aload_n (pc := 24) dX0_exchange_24 rfl rfl ?_
      refine gfX0_4 (pc := 25) dX0_exchange_25 hc.1 w_3_6 rfl ?_
      refine z_iload_n (pc := 28) dX0_exchange_28 rfl rfl ?_
      refine z_iload (pc := 29) dX0_exchange_29 rfl ?_
      refine z_iast (pc := 31) dX0_exchange_31 hc.2.2.2.2 ?_
      refine z_let (fun s3 => ?_)
      refine z_aload_n (pc := 32) dX0_exchange_32 rfl rfl ?_
      refine gfX0_4 (pc := 33) dX0_exchange_33 hc.1 w_3_6 rfl ?_
      refine z_iload_n (pc := 36) dX0_exchange_36 rfl rfl ?_
      refine z_iload_n (pc := 37) dX0_exchange_37 rfl rfl ?_
      refine z_iast (pc := 38) dX0_exchange_38 hc.2.2.2.2 ?_
      refine z_let (fun s4 => ?_)
      exact z_vret (pc := 39) dX0_exchange_39 rfl
def fX0_join (c : Nat) (a1 : Int32) (a2 : Int32) (a3 : Int32) (σ : z_Mem) : Option (Int32 × z_Mem) :=
  if a1 < 0 then (some ((-2 : Int32), σ)) else (if (6 : Int32) ≤ a1 then (some ((-2 : Int32), σ)) else (if a2 < 0 then (some ((-2 : Int32), σ)) else (if (9 : Int32) < a2 then (some ((-2 : Int32), σ)) else (if a3 < 0 then (some ((-2 : Int32), σ)) else (if a3 ≤ (99 : Int32) then (if σ.1 c 5 < (6 : Int32) then (z_gd (z_in (σ.1 c 5) 6) (z_st (z_pt σ (c + 1) (z_x (σ.1 c 5)) a1) (fun s1 => z_gd (z_in (σ.1 c 5) 6) (z_st (z_pt s1 (c + 2) (z_x (σ.1 c 5)) a2) (fun s2 => z_gd (z_in (σ.1 c 5) 6) (z_st (z_pt s2 (c + 3) (z_x (σ.1 c 5)) a3) (fun s3 => z_st (z_pt s3 c 5 ((s3.1 c 5) + (1 : Int32))) (fun s4 => z_bd (fX0_enter c (σ.1 c 5) (s4.1 c 6) s4) (fun _ s5 => some (σ.1 c 5, s5)))))))))) else (some ((-4 : Int32), σ))) else (some ((-2 : Int32), σ)))))))
theorem kX0_join (c : Nat) (hc : z_lm c) (a1 : Int32) (a2 : Int32) (a3 : Int32) (σ : z_Mem) (D : Nat) (hD : 2 ≤ D) : z_Call YC mX0_join D z_i [zR c, zI a1, zI a2, zI a3] σ (fX0_join c a1 a2 a3 σ) := by
  obtain ⟨D, rfl⟩ : ∃ E, D = E + 1 := ⟨D - 1, by omega⟩
  replace hD : 1 ≤ D := by omega
  refine z_entry (lv := [some (zR c), some (zI a1), some (zI a2), some (zI a3), none]) (by decide) rfl (Nat.le_of_ble_eq_true rfl) rfl ?_
  rw [fX0_join]
  refine z_iload_n (pc := 0) dX0_join_0 rfl rfl ?_
  refine z_if_lt (tgt := 30) (pc := 1) dX0_join_1 (by decide) (fun _ => ?_) (fun _ => ?_)
  · refine z_bipush_m2 (pc := 30) dX0_join_30 ?_
    exact z_iret (pc := 32) dX0_join_32 rfl rfl
  · refine z_iload_n (pc := 4) dX0_join_4 rfl rfl ?_
    refine z_bipush_6 (pc := 5) dX0_join_5 ?_
    refine z_icmp_ge (tgt := 30) (pc := 7) dX0_join_7 (by decide) (fun _ => ?_) (fun _ => ?_)
    · refine z_bipush_m2 (pc := 30) dX0_join_30 ?_
      exact z_iret (pc := 32) dX0_join_32 rfl rfl
    · refine z_iload_n (pc := 10) dX0_join_10 rfl rfl ?_
      refine z_if_lt (tgt := 30) (pc := 11) dX0_join_11 (by decide) (fun _ => ?_) (fun _ => ?_)
      · refine z_bipush_m2 (pc := 30) dX0_join_30 ?_
        exact z_iret (pc := 32) dX0_join_32 rfl rfl
      · refine z_iload_n (pc := 14) dX0_join_14 rfl rfl ?_
        refine z_bipush_9 (pc := 15) dX0_join_15 ?_
        refine z_icmp_gt (tgt := 30) (pc := 17) dX0_join_17 (by decide) (fun _ => ?_) (fun _ => ?_)
        · refine z_bipush_m2 (pc := 30) dX0_join_30 ?_
          exact z_iret (pc := 32) dX0_join_32 rfl rfl
        · refine z_iload_n (pc := 20) dX0_join_20 rfl rfl ?_
          refine z_if_lt (tgt := 30) (pc := 21) dX0_join_21 (by decide) (fun _ => ?_) (fun _ => ?_)
          · refine z_bipush_m2 (pc := 30) dX0_join_30 ?_
            exact z_iret (pc := 32) dX0_join_32 rfl rfl
          · refine z_iload_n (pc := 24) dX0_join_24 rfl rfl ?_
            refine z_bipush_99 (pc := 25) dX0_join_25 ?_
            refine z_icmp_le (tgt := 33) (pc := 27) dX0_join_27 (by decide) (fun _ => ?_) (fun _ => ?_)
            · refine z_aload_n (pc := 33) dX0_join_33 rfl rfl ?_
              refine gfX0_5 (pc := 34) dX0_join_34 hc.1 w_11_15 rfl ?_
              refine z_bipush_6 (pc := 37) dX0_join_37 ?_
              refine z_icmp_lt (tgt := 45) (pc := 39) dX0_join_39 (by decide) (fun _ => ?_) (fun _ => ?_)
              · refine z_aload_n (pc := 45) dX0_join_45 rfl rfl ?_
                refine gfX0_5 (pc := 46) dX0_join_46 hc.1 w_11_15 rfl ?_
                refine z_istore (pc := 49) dX0_join_49 (Nat.le_of_ble_eq_true rfl) (z_so5_4 rfl) ?_
                refine z_aload_n (pc := 51) dX0_join_51 rfl rfl ?_
                refine gfX0_1 (pc := 52) dX0_join_52 hc.1 w_3_3 rfl ?_
                refine z_iload (pc := 55) dX0_join_55 rfl ?_
                refine z_iload_n (pc := 57) dX0_join_57 rfl rfl ?_
                refine z_iast (pc := 58) dX0_join_58 hc.2.1 ?_
                refine z_let (fun s1 => ?_)
                refine z_aload_n (pc := 59) dX0_join_59 rfl rfl ?_
                refine gfX0_2 (pc := 60) dX0_join_60 hc.1 w_3_4 rfl ?_
                refine z_iload (pc := 63) dX0_join_63 rfl ?_
                refine z_iload_n (pc := 65) dX0_join_65 rfl rfl ?_
                refine z_iast (pc := 66) dX0_join_66 hc.2.2.1 ?_
                refine z_let (fun s2 => ?_)
                refine z_aload_n (pc := 67) dX0_join_67 rfl rfl ?_
                refine gfX0_3 (pc := 68) dX0_join_68 hc.1 w_3_5 rfl ?_
                refine z_iload (pc := 71) dX0_join_71 rfl ?_
                refine z_iload_n (pc := 73) dX0_join_73 rfl rfl ?_
                refine z_iast (pc := 74) dX0_join_74 hc.2.2.2.1 ?_
                refine z_let (fun s3 => ?_)
                refine z_aload_n (pc := 75) dX0_join_75 rfl rfl ?_
                refine z_dup (pc := 76) dX0_join_76 rfl ?_
                refine gfX0_5 (pc := 77) dX0_join_77 hc.1 w_11_15 rfl ?_
                refine z_iconst_1 (pc := 80) dX0_join_80 ?_
                refine z_iadd (pc := 81) dX0_join_81 ?_
                refine pfX0_5 (pc := 82) dX0_join_82 hc.1 w_11_15 rfl ?_
                refine z_let (fun s4 => ?_)
                refine z_aload_n (pc := 85) dX0_join_85 rfl rfl ?_
                refine z_iload (pc := 86) dX0_join_86 rfl ?_
                refine z_aload_n (pc := 88) dX0_join_88 rfl rfl ?_
                refine gfX0_6 (pc := 89) dX0_join_89 hc.1 w_18_14 rfl ?_
                refine z_V2u (pc := 92) dX0_join_92 lVX0_50 hc.1 rfl (Nat.le_of_ble_eq_true rfl) (kX0_enter c hc (σ.1 c 5) (s4.1 c 6) s4 D (by omega)) (fun _ s5 => ?_)
                refine z_iload (pc := 95) dX0_join_95 rfl ?_
                exact z_iret (pc := 97) dX0_join_97 rfl rfl
              · refine z_bipush_m4 (pc := 42) dX0_join_42 ?_
                exact z_iret (pc := 44) dX0_join_44 rfl rfl
            · refine z_bipush_m2 (pc := 30) dX0_join_30 ?_
              exact z_iret (pc := 32) dX0_join_32 rfl rfl
def fX0_trait (c : Nat) (a1 : Int32) (a2 : Int32) (σ : z_Mem) : Option (Int32 × z_Mem) :=
  if a1 = 0 then (if a1 = 0 then (some (σ.1 c 7, σ)) else (some (σ.1 c 8, σ))) else (if a1 = (1 : Int32) then (if a1 = 0 then (some (σ.1 c 7, σ)) else (some (σ.1 c 8, σ))) else (z_bd (fX0_has c a2 σ) (fun r1 s1 => if r1 = 0 then (some ((-1000 : Int32), s1)) else (if a1 = (2 : Int32) then (z_gd (z_in a2 6) (some (s1.1 (c + 2) (z_x a2), s1))) else (if a1 = (3 : Int32) then (z_gd (z_in a2 6) (some (s1.1 (c + 3) (z_x a2), s1))) else (z_gd (z_in a2 6) (some (s1.1 (c + 1) (z_x a2), s1))))))))
theorem kX0_trait (c : Nat) (hc : z_lm c) (a1 : Int32) (a2 : Int32) (σ : z_Mem) (D : Nat) (hD : 2 ≤ D) : z_Call YC mX0_trait D z_i [zR c, zI a1, zI a2] σ (fX0_trait c a1 a2 σ) := by
  obtain ⟨D, rfl⟩ : ∃ E, D = E + 1 := ⟨D - 1, by omega⟩
  replace hD : 1 ≤ D := by omega
  refine z_entry (lv := [some (zR c), some (zI a1), some (zI a2)]) (by decide) rfl (Nat.le_of_ble_eq_true rfl) rfl ?_
  rw [fX0_trait]
  refine z_iload_n (pc := 0) dX0_trait_0 rfl rfl ?_
  refine z_if_eq (tgt := 9) (pc := 1) dX0_trait_1 (by decide) (fun _ => ?_) (fun _ => ?_)
  · refine z_iload_n (pc := 9) dX0_trait_9 rfl rfl ?_
    refine z_if_ne (tgt := 20) (pc := 10) dX0_trait_10 (by decide) (fun _ => ?_) (fun _ => ?_)
    · refine z_aload_n (pc := 20) dX0_trait_20 rfl rfl ?_
      refine gfX0_8 (pc := 21) dX0_trait_21 hc.1 w_11_21 rfl ?_
      exact z_iret (pc := 24) dX0_trait_24 rfl rfl
    · refine z_aload_n (pc := 13) dX0_trait_13 rfl rfl ?_
      refine gfX0_7 (pc := 14) dX0_trait_14 hc.1 w_11_20 rfl ?_
      refine z_goto (tgt := 24) (pc := 17) dX0_trait_17 (by decide) ?_
      exact z_iret (pc := 24) dX0_trait_24 rfl rfl
  · refine z_iload_n (pc := 4) dX0_trait_4 rfl rfl ?_
    refine z_iconst_1 (pc := 5) dX0_trait_5 ?_
    refine z_icmp_ne (tgt := 25) (pc := 6) dX0_trait_6 (by decide) (fun _ => ?_) (fun _ => ?_)
    · refine z_aload_n (pc := 25) dX0_trait_25 rfl rfl ?_
      refine z_iload_n (pc := 26) dX0_trait_26 rfl rfl ?_
      refine z_V1i (pc := 27) dX0_trait_27 lVX0_54 hc.1 rfl (Nat.le_of_ble_eq_true rfl) (kX0_has c hc a2 σ D (by omega)) (fun r1 s1 => ?_)
      refine z_if_ne (tgt := 37) (pc := 30) dX0_trait_30 (by decide) (fun _ => ?_) (fun _ => ?_)
      · refine z_iload_n (pc := 37) dX0_trait_37 rfl rfl ?_
        refine z_iconst_2 (pc := 38) dX0_trait_38 ?_
        refine z_icmp_ne (tgt := 51) (pc := 39) dX0_trait_39 (by decide) (fun _ => ?_) (fun _ => ?_)
        · refine z_iload_n (pc := 51) dX0_trait_51 rfl rfl ?_
          refine z_iconst_3 (pc := 52) dX0_trait_52 ?_
          refine z_icmp_ne (tgt := 65) (pc := 53) dX0_trait_53 (by decide) (fun _ => ?_) (fun _ => ?_)
          · refine z_aload_n (pc := 65) dX0_trait_65 rfl rfl ?_
            refine gfX0_1 (pc := 66) dX0_trait_66 hc.1 w_3_3 rfl ?_
            refine z_iload_n (pc := 69) dX0_trait_69 rfl rfl ?_
            refine z_iald (pc := 70) dX0_trait_70 hc.2.1 ?_
            exact z_iret (pc := 71) dX0_trait_71 rfl rfl
          · refine z_aload_n (pc := 56) dX0_trait_56 rfl rfl ?_
            refine gfX0_3 (pc := 57) dX0_trait_57 hc.1 w_3_5 rfl ?_
            refine z_iload_n (pc := 60) dX0_trait_60 rfl rfl ?_
            refine z_iald (pc := 61) dX0_trait_61 hc.2.2.2.1 ?_
            refine z_goto (tgt := 71) (pc := 62) dX0_trait_62 (by decide) ?_
            exact z_iret (pc := 71) dX0_trait_71 rfl rfl
        · refine z_aload_n (pc := 42) dX0_trait_42 rfl rfl ?_
          refine gfX0_2 (pc := 43) dX0_trait_43 hc.1 w_3_4 rfl ?_
          refine z_iload_n (pc := 46) dX0_trait_46 rfl rfl ?_
          refine z_iald (pc := 47) dX0_trait_47 hc.2.2.1 ?_
          refine z_goto (tgt := 71) (pc := 48) dX0_trait_48 (by decide) ?_
          exact z_iret (pc := 71) dX0_trait_71 rfl rfl
      · refine z_sipush_m1000 (pc := 33) dX0_trait_33 ?_
        exact z_iret (pc := 36) dX0_trait_36 rfl rfl
    · refine z_iload_n (pc := 9) dX0_trait_9 rfl rfl ?_
      refine z_if_ne (tgt := 20) (pc := 10) dX0_trait_10 (by decide) (fun _ => ?_) (fun _ => ?_)
      · refine z_aload_n (pc := 20) dX0_trait_20 rfl rfl ?_
        refine gfX0_8 (pc := 21) dX0_trait_21 hc.1 w_11_21 rfl ?_
        exact z_iret (pc := 24) dX0_trait_24 rfl rfl
      · refine z_aload_n (pc := 13) dX0_trait_13 rfl rfl ?_
        refine gfX0_7 (pc := 14) dX0_trait_14 hc.1 w_11_20 rfl ?_
        refine z_goto (tgt := 24) (pc := 17) dX0_trait_17 (by decide) ?_
        exact z_iret (pc := 24) dX0_trait_24 rfl rfl
def fX0_suppose (c : Nat) (a1 : Int32) (a2 : Int32) (a3 : Int32) (σ : z_Mem) : Option (Unit × z_Mem) :=
  if a1 = 0 then (z_st (z_pt σ c 7 a3) (fun s7 => some ((), s7))) else (if a1 = (1 : Int32) then (z_st (z_pt σ c 8 a3) (fun s6 => some ((), s6))) else (if a1 = (9 : Int32) then (z_st (z_pt σ c 9 a3) (fun s5 => some ((), s5))) else (z_bd (fX0_has c a2 σ) (fun r1 s1 => if r1 = 0 then (some ((), s1)) else (if a1 = (2 : Int32) then (z_gd (z_in a2 6) (z_st (z_pt s1 (c + 2) (z_x a2) a3) (fun s4 => some ((), s4)))) else (if a1 = (3 : Int32) then (z_gd (z_in a2 6) (z_st (z_pt s1 (c + 3) (z_x a2) a3) (fun s3 => some ((), s3)))) else (z_gd (z_in a2 6) (z_st (z_pt s1 (c + 1) (z_x a2) a3) (fun s2 => some ((), s2))))))))))
theorem kX0_suppose (c : Nat) (hc : z_lm c) (a1 : Int32) (a2 : Int32) (a3 : Int32) (σ : z_Mem) (D : Nat) (hD : 2 ≤ D) : z_Call YC mX0_suppose D z_u [zR c, zI a1, zI a2, zI a3] σ (fX0_suppose c a1 a2 a3 σ) := by
  obtain ⟨D, rfl⟩ : ∃ E, D = E + 1 := ⟨D - 1, by omega⟩
  replace hD : 1 ≤ D := by omega
  refine z_entry (lv := [some (zR c), some (zI a1), some (zI a2), some (zI a3), none]) (by decide) rfl (Nat.le_of_ble_eq_true rfl) rfl ?_
  rw [fX0_suppose]
  refine z_iload_n (pc := 0) dX0_suppose_0 rfl rfl ?_
  refine z_if_ne (tgt := 12) (pc := 1) dX0_suppose_1 (by decide) (fun _ => ?_) (fun _ => ?_)
  · refine z_iload_n (pc := 12) dX0_suppose_12 rfl rfl ?_
    refine z_iconst_1 (pc := 13) dX0_suppose_13 ?_
    refine z_icmp_ne (tgt := 25) (pc := 14) dX0_suppose_14 (by decide) (fun _ => ?_) (fun _ => ?_)
    · refine z_iload_n (pc := 25) dX0_suppose_25 rfl rfl ?_
      refine z_bipush_9 (pc := 26) dX0_suppose_26 ?_
      refine z_icmp_ne (tgt := 39) (pc := 28) dX0_suppose_28 (by decide) (fun _ => ?_) (fun _ => ?_)
      · refine z_aload_n (pc := 39) dX0_suppose_39 rfl rfl ?_
        refine z_iload_n (pc := 40) dX0_suppose_40 rfl rfl ?_
        refine z_V1i (pc := 41) dX0_suppose_41 lVX0_54 hc.1 rfl (Nat.le_of_ble_eq_true rfl) (kX0_has c hc a2 σ D (by omega)) (fun r1 s1 => ?_)
        refine z_if_eq (tgt := 82) (pc := 44) dX0_suppose_44 (by decide) (fun _ => ?_) (fun _ => ?_)
        · exact z_vret (pc := 82) dX0_suppose_82 rfl
        · refine z_iload_n (pc := 47) dX0_suppose_47 rfl rfl ?_
          refine z_iconst_2 (pc := 48) dX0_suppose_48 ?_
          refine z_icmp_ne (tgt := 59) (pc := 49) dX0_suppose_49 (by decide) (fun _ => ?_) (fun _ => ?_)
          · refine z_iload_n (pc := 59) dX0_suppose_59 rfl rfl ?_
            refine z_iconst_3 (pc := 60) dX0_suppose_60 ?_
            refine z_icmp_ne (tgt := 71) (pc := 61) dX0_suppose_61 (by decide) (fun _ => ?_) (fun _ => ?_)
            · refine z_aload_n (pc := 71) dX0_suppose_71 rfl rfl ?_
              refine gfX0_1 (pc := 72) dX0_suppose_72 hc.1 w_3_3 rfl ?_
              refine z_astore (pc := 75) dX0_suppose_75 (Nat.le_of_ble_eq_true rfl) (z_so5_4 rfl) ?_
              refine z_aload (pc := 77) dX0_suppose_77 rfl ?_
              refine z_iload_n (pc := 79) dX0_suppose_79 rfl rfl ?_
              refine z_iload_n (pc := 80) dX0_suppose_80 rfl rfl ?_
              refine z_iast (pc := 81) dX0_suppose_81 hc.2.1 ?_
              refine z_let (fun s2 => ?_)
              exact z_vret (pc := 82) dX0_suppose_82 rfl
            · refine z_aload_n (pc := 64) dX0_suppose_64 rfl rfl ?_
              refine gfX0_3 (pc := 65) dX0_suppose_65 hc.1 w_3_5 rfl ?_
              refine z_goto (tgt := 75) (pc := 68) dX0_suppose_68 (by decide) ?_
              refine z_astore (pc := 75) dX0_suppose_75 (Nat.le_of_ble_eq_true rfl) (z_so5_4 rfl) ?_
              refine z_aload (pc := 77) dX0_suppose_77 rfl ?_
              refine z_iload_n (pc := 79) dX0_suppose_79 rfl rfl ?_
              refine z_iload_n (pc := 80) dX0_suppose_80 rfl rfl ?_
              refine z_iast (pc := 81) dX0_suppose_81 hc.2.2.2.1 ?_
              refine z_let (fun s3 => ?_)
              exact z_vret (pc := 82) dX0_suppose_82 rfl
          · refine z_aload_n (pc := 52) dX0_suppose_52 rfl rfl ?_
            refine gfX0_2 (pc := 53) dX0_suppose_53 hc.1 w_3_4 rfl ?_
            refine z_goto (tgt := 75) (pc := 56) dX0_suppose_56 (by decide) ?_
            refine z_astore (pc := 75) dX0_suppose_75 (Nat.le_of_ble_eq_true rfl) (z_so5_4 rfl) ?_
            refine z_aload (pc := 77) dX0_suppose_77 rfl ?_
            refine z_iload_n (pc := 79) dX0_suppose_79 rfl rfl ?_
            refine z_iload_n (pc := 80) dX0_suppose_80 rfl rfl ?_
            refine z_iast (pc := 81) dX0_suppose_81 hc.2.2.1 ?_
            refine z_let (fun s4 => ?_)
            exact z_vret (pc := 82) dX0_suppose_82 rfl
      · refine z_aload_n (pc := 31) dX0_suppose_31 rfl rfl ?_
        refine z_iload_n (pc := 32) dX0_suppose_32 rfl rfl ?_
        refine pfX0_9 (pc := 33) dX0_suppose_33 hc.1 w_12_3 rfl ?_
        refine z_let (fun s5 => ?_)
        refine z_goto (tgt := 82) (pc := 36) dX0_suppose_36 (by decide) ?_
        exact z_vret (pc := 82) dX0_suppose_82 rfl
    · refine z_aload_n (pc := 17) dX0_suppose_17 rfl rfl ?_
      refine z_iload_n (pc := 18) dX0_suppose_18 rfl rfl ?_
      refine pfX0_8 (pc := 19) dX0_suppose_19 hc.1 w_11_21 rfl ?_
      refine z_let (fun s6 => ?_)
      refine z_goto (tgt := 82) (pc := 22) dX0_suppose_22 (by decide) ?_
      exact z_vret (pc := 82) dX0_suppose_82 rfl
  · refine z_aload_n (pc := 4) dX0_suppose_4 rfl rfl ?_
    refine z_iload_n (pc := 5) dX0_suppose_5 rfl rfl ?_
    refine pfX0_7 (pc := 6) dX0_suppose_6 hc.1 w_11_20 rfl ?_
    refine z_let (fun s7 => ?_)
    refine z_goto (tgt := 82) (pc := 9) dX0_suppose_9 (by decide) ?_
    exact z_vret (pc := 82) dX0_suppose_82 rfl
def fX0_takeFrom (c : Nat) (a1 : Nat)  (σ : z_Mem) : Option (Unit × z_Mem) :=
  z_gd (z_cpOk (0 : Int32) (0 : Int32) (6 : Int32) 6 6) (z_st (z_ac σ (a1 + 1) (c + 1) (z_x (0 : Int32)) (z_x (0 : Int32)) (z_x (6 : Int32))) (fun s1 => z_gd (z_cpOk (0 : Int32) (0 : Int32) (6 : Int32) 6 6) (z_st (z_ac s1 (a1 + 2) (c + 2) (z_x (0 : Int32)) (z_x (0 : Int32)) (z_x (6 : Int32))) (fun s2 => z_gd (z_cpOk (0 : Int32) (0 : Int32) (6 : Int32) 6 6) (z_st (z_ac s2 (a1 + 3) (c + 3) (z_x (0 : Int32)) (z_x (0 : Int32)) (z_x (6 : Int32))) (fun s3 => z_gd (z_cpOk (0 : Int32) (0 : Int32) (6 : Int32) 6 6) (z_st (z_ac s3 (a1 + 4) (c + 4) (z_x (0 : Int32)) (z_x (0 : Int32)) (z_x (6 : Int32))) (fun s4 => z_st (z_pt s4 c 5 (s4.1 a1 5)) (fun s5 => z_st (z_pt s5 c 6 (s5.1 a1 6)) (fun s6 => z_st (z_pt s6 c 7 (s6.1 a1 7)) (fun s7 => z_st (z_pt s7 c 8 (s7.1 a1 8)) (fun s8 => z_st (z_pt s8 c 9 (s8.1 a1 9)) (fun s9 => some ((), s9))))))))))))))
theorem kX0_takeFrom (c : Nat) (a1 : Nat) (hc : z_lm c) (ha1 : z_lm a1)  (σ : z_Mem) (D : Nat) (hD : 1 ≤ D) : z_Call YC mX0_takeFrom D z_u [zR c, zR a1] σ (fX0_takeFrom c a1 σ) := by
  obtain ⟨D, rfl⟩ : ∃ E, D = E + 1 := ⟨D - 1, by omega⟩
  replace hD : 0 ≤ D := by omega
  refine z_entry (lv := [some (zR c), some (zR a1)]) (by decide) rfl (Nat.le_of_ble_eq_true rfl) rfl ?_
  rw [fX0_takeFrom]
  refine z_aload_n (pc := 0) dX0_takeFrom_0 rfl rfl ?_
  refine gfX0_1 (pc := 1) dX0_takeFrom_1 ha1.1 w_3_3 rfl ?_
  refine z_iconst_0 (pc := 4) dX0_takeFrom_4 ?_
  refine z_aload_n (pc := 5) dX0_takeFrom_5 rfl rfl ?_
  refine gfX0_1 (pc := 6) dX0_takeFrom_6 hc.1 w_3_3 rfl ?_
  refine z_iconst_0 (pc := 9) dX0_takeFrom_9 ?_
  refine z_bipush_6 (pc := 10) dX0_takeFrom_10 ?_
  refine z_copy (pc := 12) rfl dX0_takeFrom_12 w_28_23 w_29_0 w_29_1 w_29_2 ha1.2.1 hc.2.1 ?_
  refine z_let (fun s1 => ?_)
  refine z_aload_n (pc := 15) dX0_takeFrom_15 rfl rfl ?_
  refine gfX0_2 (pc := 16) dX0_takeFrom_16 ha1.1 w_3_4 rfl ?_
  refine z_iconst_0 (pc := 19) dX0_takeFrom_19 ?_
  refine z_aload_n (pc := 20) dX0_takeFrom_20 rfl rfl ?_
  refine gfX0_2 (pc := 21) dX0_takeFrom_21 hc.1 w_3_4 rfl ?_
  refine z_iconst_0 (pc := 24) dX0_takeFrom_24 ?_
  refine z_bipush_6 (pc := 25) dX0_takeFrom_25 ?_
  refine z_copy (pc := 27) rfl dX0_takeFrom_27 w_28_23 w_29_0 w_29_1 w_29_2 ha1.2.2.1 hc.2.2.1 ?_
  refine z_let (fun s2 => ?_)
  refine z_aload_n (pc := 30) dX0_takeFrom_30 rfl rfl ?_
  refine gfX0_3 (pc := 31) dX0_takeFrom_31 ha1.1 w_3_5 rfl ?_
  refine z_iconst_0 (pc := 34) dX0_takeFrom_34 ?_
  refine z_aload_n (pc := 35) dX0_takeFrom_35 rfl rfl ?_
  refine gfX0_3 (pc := 36) dX0_takeFrom_36 hc.1 w_3_5 rfl ?_
  refine z_iconst_0 (pc := 39) dX0_takeFrom_39 ?_
  refine z_bipush_6 (pc := 40) dX0_takeFrom_40 ?_
  refine z_copy (pc := 42) rfl dX0_takeFrom_42 w_28_23 w_29_0 w_29_1 w_29_2 ha1.2.2.2.1 hc.2.2.2.1 ?_
  refine z_let (fun s3 => ?_)
  refine z_aload_n (pc := 45) dX0_takeFrom_45 rfl rfl ?_
  refine gfX0_4 (pc := 46) dX0_takeFrom_46 ha1.1 w_3_6 rfl ?_
  refine z_iconst_0 (pc := 49) dX0_takeFrom_49 ?_
  refine z_aload_n (pc := 50) dX0_takeFrom_50 rfl rfl ?_
  refine gfX0_4 (pc := 51) dX0_takeFrom_51 hc.1 w_3_6 rfl ?_
  refine z_iconst_0 (pc := 54) dX0_takeFrom_54 ?_
  refine z_bipush_6 (pc := 55) dX0_takeFrom_55 ?_
  refine z_copy (pc := 57) rfl dX0_takeFrom_57 w_28_23 w_29_0 w_29_1 w_29_2 ha1.2.2.2.2 hc.2.2.2.2 ?_
  refine z_let (fun s4 => ?_)
  refine z_aload_n (pc := 60) dX0_takeFrom_60 rfl rfl ?_
  refine z_aload_n (pc := 61) dX0_takeFrom_61 rfl rfl ?_
  refine gfX0_5 (pc := 62) dX0_takeFrom_62 ha1.1 w_11_15 rfl ?_
  refine pfX0_5 (pc := 65) dX0_takeFrom_65 hc.1 w_11_15 rfl ?_
  refine z_let (fun s5 => ?_)
  refine z_aload_n (pc := 68) dX0_takeFrom_68 rfl rfl ?_
  refine z_aload_n (pc := 69) dX0_takeFrom_69 rfl rfl ?_
  refine gfX0_6 (pc := 70) dX0_takeFrom_70 ha1.1 w_18_14 rfl ?_
  refine pfX0_6 (pc := 73) dX0_takeFrom_73 hc.1 w_18_14 rfl ?_
  refine z_let (fun s6 => ?_)
  refine z_aload_n (pc := 76) dX0_takeFrom_76 rfl rfl ?_
  refine z_aload_n (pc := 77) dX0_takeFrom_77 rfl rfl ?_
  refine gfX0_7 (pc := 78) dX0_takeFrom_78 ha1.1 w_11_20 rfl ?_
  refine pfX0_7 (pc := 81) dX0_takeFrom_81 hc.1 w_11_20 rfl ?_
  refine z_let (fun s7 => ?_)
  refine z_aload_n (pc := 84) dX0_takeFrom_84 rfl rfl ?_
  refine z_aload_n (pc := 85) dX0_takeFrom_85 rfl rfl ?_
  refine gfX0_8 (pc := 86) dX0_takeFrom_86 ha1.1 w_11_21 rfl ?_
  refine pfX0_8 (pc := 89) dX0_takeFrom_89 hc.1 w_11_21 rfl ?_
  refine z_let (fun s8 => ?_)
  refine z_aload_n (pc := 92) dX0_takeFrom_92 rfl rfl ?_
  refine z_aload_n (pc := 93) dX0_takeFrom_93 rfl rfl ?_
  refine gfX0_9 (pc := 94) dX0_takeFrom_94 ha1.1 w_12_3 rfl ?_
  refine pfX0_9 (pc := 97) dX0_takeFrom_97 hc.1 w_12_3 rfl ?_
  refine z_let (fun s9 => ?_)
  exact z_vret (pc := 100) dX0_takeFrom_100 rfl
def fX0_named (c : Nat) (a1 : Int32) (a2 : Int32) (a3 : Int32) (σ : z_Mem) : Option (Int32 × z_Mem) :=
  if a1 = 0 then (if a2 < 0 then (some ((0 : Int32), σ)) else (if (6 : Int32) ≤ a2 then (some ((0 : Int32), σ)) else (z_gd (z_in a2 6) (some (σ.1 (c + 3) (z_x a2), σ))))) else if a1 = 1 then (if a3 < 0 then (some ((0 : Int32), σ)) else (if (6 : Int32) ≤ a3 then (some ((0 : Int32), σ)) else (z_gd (z_in a3 6) (some (σ.1 (c + 3) (z_x a3), σ))))) else if a1 = 2 then (if a2 < 0 then (some ((0 : Int32), σ)) else (if (6 : Int32) ≤ a2 then (some ((0 : Int32), σ)) else (z_gd (z_in a2 6) (some (σ.1 (c + 2) (z_x a2), σ))))) else if a1 = 3 then (some (σ.1 c 7, σ)) else if a1 = 4 then (some (σ.1 c 8, σ)) else some (σ.1 c 6, σ)
theorem kX0_named (c : Nat) (hc : z_lm c) (a1 : Int32) (a2 : Int32) (a3 : Int32) (σ : z_Mem) (D : Nat) (hD : 1 ≤ D) : z_Call YC mX0_named D z_i [zR c, zI a1, zI a2, zI a3] σ (fX0_named c a1 a2 a3 σ) := by
  obtain ⟨D, rfl⟩ : ∃ E, D = E + 1 := ⟨D - 1, by omega⟩
  replace hD : 0 ≤ D := by omega
  refine z_entry (lv := [some (zR c), some (zI a1), some (zI a2), some (zI a3)]) (by decide) rfl (Nat.le_of_ble_eq_true rfl) rfl ?_
  rw [fX0_named]
  refine z_iload_n (pc := 0) dX0_named_0 rfl rfl ?_
  refine z_tswC (n := 0) (off := 35) (tgt := 36) (pc := 1) dX0_named_1 (by decide) (by decide) (by decide) (by decide) ?_ (fun h0 => ?_)
  · refine z_iload_n (pc := 36) dX0_named_36 rfl rfl ?_
    refine z_if_lt (tgt := 55) (pc := 37) dX0_named_37 (by decide) (fun _ => ?_) (fun _ => ?_)
    · refine z_iconst_0 (pc := 55) dX0_named_55 ?_
      exact z_iret (pc := 56) dX0_named_56 rfl rfl
    · refine z_iload_n (pc := 40) dX0_named_40 rfl rfl ?_
      refine z_bipush_6 (pc := 41) dX0_named_41 ?_
      refine z_icmp_ge (tgt := 55) (pc := 43) dX0_named_43 (by decide) (fun _ => ?_) (fun _ => ?_)
      · refine z_iconst_0 (pc := 55) dX0_named_55 ?_
        exact z_iret (pc := 56) dX0_named_56 rfl rfl
      · refine z_aload_n (pc := 46) dX0_named_46 rfl rfl ?_
        refine gfX0_3 (pc := 47) dX0_named_47 hc.1 w_3_5 rfl ?_
        refine z_iload_n (pc := 50) dX0_named_50 rfl rfl ?_
        refine z_iald (pc := 51) dX0_named_51 hc.2.2.2.1 ?_
        refine z_goto (tgt := 56) (pc := 52) dX0_named_52 (by decide) ?_
        exact z_iret (pc := 56) dX0_named_56 rfl rfl
  · refine z_tswC (n := 1) (off := 56) (tgt := 57) (pc := 1) dX0_named_1 (by decide) (by decide) (by decide) (by decide) ?_ (fun h1 => ?_)
    · refine z_iload_n (pc := 57) dX0_named_57 rfl rfl ?_
      refine z_if_lt (tgt := 76) (pc := 58) dX0_named_58 (by decide) (fun _ => ?_) (fun _ => ?_)
      · refine z_iconst_0 (pc := 76) dX0_named_76 ?_
        exact z_iret (pc := 77) dX0_named_77 rfl rfl
      · refine z_iload_n (pc := 61) dX0_named_61 rfl rfl ?_
        refine z_bipush_6 (pc := 62) dX0_named_62 ?_
        refine z_icmp_ge (tgt := 76) (pc := 64) dX0_named_64 (by decide) (fun _ => ?_) (fun _ => ?_)
        · refine z_iconst_0 (pc := 76) dX0_named_76 ?_
          exact z_iret (pc := 77) dX0_named_77 rfl rfl
        · refine z_aload_n (pc := 67) dX0_named_67 rfl rfl ?_
          refine gfX0_3 (pc := 68) dX0_named_68 hc.1 w_3_5 rfl ?_
          refine z_iload_n (pc := 71) dX0_named_71 rfl rfl ?_
          refine z_iald (pc := 72) dX0_named_72 hc.2.2.2.1 ?_
          refine z_goto (tgt := 77) (pc := 73) dX0_named_73 (by decide) ?_
          exact z_iret (pc := 77) dX0_named_77 rfl rfl
    · refine z_tswC (n := 2) (off := 77) (tgt := 78) (pc := 1) dX0_named_1 (by decide) (by decide) (by decide) (by decide) ?_ (fun h2 => ?_)
      · refine z_iload_n (pc := 78) dX0_named_78 rfl rfl ?_
        refine z_if_lt (tgt := 97) (pc := 79) dX0_named_79 (by decide) (fun _ => ?_) (fun _ => ?_)
        · refine z_iconst_0 (pc := 97) dX0_named_97 ?_
          exact z_iret (pc := 98) dX0_named_98 rfl rfl
        · refine z_iload_n (pc := 82) dX0_named_82 rfl rfl ?_
          refine z_bipush_6 (pc := 83) dX0_named_83 ?_
          refine z_icmp_ge (tgt := 97) (pc := 85) dX0_named_85 (by decide) (fun _ => ?_) (fun _ => ?_)
          · refine z_iconst_0 (pc := 97) dX0_named_97 ?_
            exact z_iret (pc := 98) dX0_named_98 rfl rfl
          · refine z_aload_n (pc := 88) dX0_named_88 rfl rfl ?_
            refine gfX0_2 (pc := 89) dX0_named_89 hc.1 w_3_4 rfl ?_
            refine z_iload_n (pc := 92) dX0_named_92 rfl rfl ?_
            refine z_iald (pc := 93) dX0_named_93 hc.2.2.1 ?_
            refine z_goto (tgt := 98) (pc := 94) dX0_named_94 (by decide) ?_
            exact z_iret (pc := 98) dX0_named_98 rfl rfl
      · refine z_tswC (n := 3) (off := 98) (tgt := 99) (pc := 1) dX0_named_1 (by decide) (by decide) (by decide) (by decide) ?_ (fun h3 => ?_)
        · refine z_aload_n (pc := 99) dX0_named_99 rfl rfl ?_
          refine gfX0_7 (pc := 100) dX0_named_100 hc.1 w_11_20 rfl ?_
          exact z_iret (pc := 103) dX0_named_103 rfl rfl
        · refine z_tswC (n := 4) (off := 103) (tgt := 104) (pc := 1) dX0_named_1 (by decide) (by decide) (by decide) (by decide) ?_ (fun h4 => ?_)
          · refine z_aload_n (pc := 104) dX0_named_104 rfl rfl ?_
            refine gfX0_8 (pc := 105) dX0_named_105 hc.1 w_11_21 rfl ?_
            exact z_iret (pc := 108) dX0_named_108 rfl rfl
          · refine z_tswD (tgt := 109) (pc := 1) dX0_named_1 (by have t0 := lv_neT h0 (a := 0) rfl; have t1 := lv_neT h1 (a := 1) rfl; have t2 := lv_neT h2 (a := 2) rfl; have t3 := lv_neT h3 (a := 3) rfl; have t4 := lv_neT h4 (a := 4) rfl; omega) (by decide) ?_
            refine z_aload_n (pc := 109) dX0_named_109 rfl rfl ?_
            refine gfX0_6 (pc := 110) dX0_named_110 hc.1 w_18_14 rfl ?_
            exact z_iret (pc := 113) dX0_named_113 rfl rfl
