def fX3_become_12 (c : Nat) : Nat → Int32 → z_Mem → Option (Unit × z_Mem)
  | 0, _, _ => none
  | q + 1, l3, σ => if (40 : Int32) ≤ l3 then (some ((), σ)) else (z_gd (z_in l3 40) (z_st (z_pt σ (c + 1) (z_x l3) (0 : Int32)) (fun s3 => fX3_become_12 c q (l3 + 1) s3)))
theorem kX3_become_12 (D : Nat) (c : Nat) (hc : z_ls c) (hD : 0 ≤ D) : ∀ (q : Nat) (l3 : Int32)  (σ : z_Mem), z_Go YC mX3_become (D + 1) z_u 12 [some (zR c), none, none, some (zI l3)] [] σ (fX3_become_12 c q l3 σ) := by
  intro q
  induction q with
  | zero => intros; exact z_none
  | succ q ih =>
    intro l3 σ
    rw [fX3_become_12]
    refine z_iload_n (pc := 12) dX3_become_12 rfl rfl ?_
    refine z_bipush_40 (pc := 13) dX3_become_13 ?_
    refine z_icmp_ge (tgt := 31) (pc := 15) dX3_become_15 (by decide) (fun _ => ?_) (fun _ => ?_)
    · exact z_vret (pc := 31) dX3_become_31 rfl
    · refine z_aload_n (pc := 18) dX3_become_18 rfl rfl ?_
      refine gfX3_0 (pc := 19) dX3_become_19 hc.1 w_3_18 rfl ?_
      refine z_iload_n (pc := 22) dX3_become_22 rfl rfl ?_
      refine z_iconst_0 (pc := 23) dX3_become_23 ?_
      refine z_iast (pc := 24) dX3_become_24 hc.2 ?_
      refine z_let (fun s3 => ?_)
      refine z_iinc (y := 1) (pc := 25) dX3_become_25 rfl (by decide) (Nat.le_of_ble_eq_true rfl) (z_so4_3 rfl) ?_
      refine z_goto (tgt := 12) (pc := 28) dX3_become_28 (by decide) ?_
      exact ih (l3 + 1) s3
def fX3_become (c : Nat) (a1 : Int32) (a2 : Int32) (σ : z_Mem) : Option (Unit × z_Mem) :=
  z_st (z_pt σ c 1 a1) (fun s1 => z_st (z_pt s1 c 2 a2) (fun s2 => fX3_become_12 c z_FU (0 : Int32) s2))
theorem kX3_become (c : Nat) (hc : z_ls c) (a1 : Int32) (a2 : Int32) (σ : z_Mem) (D : Nat) (hD : 1 ≤ D) : z_Call YC mX3_become D z_u [zR c, zI a1, zI a2] σ (fX3_become c a1 a2 σ) := by
  obtain ⟨D, rfl⟩ : ∃ E, D = E + 1 := ⟨D - 1, by omega⟩
  replace hD : 0 ≤ D := by omega
  refine z_entry (lv := [some (zR c), some (zI a1), some (zI a2), none]) (by decide) rfl (Nat.le_of_ble_eq_true rfl) rfl ?_
  rw [fX3_become]
  refine z_aload_n (pc := 0) dX3_become_0 rfl rfl ?_
  refine z_iload_n (pc := 1) dX3_become_1 rfl rfl ?_
  refine pfX3_1 (pc := 2) dX3_become_2 hc.1 w_3_19 rfl ?_
  refine z_let (fun s1 => ?_)
  refine z_aload_n (pc := 5) dX3_become_5 rfl rfl ?_
  refine z_iload_n (pc := 6) dX3_become_6 rfl rfl ?_
  refine pfX3_2 (pc := 7) dX3_become_7 hc.1 w_36_6 rfl ?_
  refine z_let (fun s2 => ?_)
  refine z_iconst_0 (pc := 10) dX3_become_10 ?_
  refine z_istore_n (pc := 11) dX3_become_11 rfl (Nat.le_of_ble_eq_true rfl) (z_so4_3 rfl) ?_
  exact z_weak (lv' := [some (zR c), none, none, some (zI (0 : Int32))]) (z_sub_ok ⟨rfl, rfl, trivial⟩) (kX3_become_12 D c hc hD z_FU (0 : Int32) s2)
def fX3_has (c : Nat) (a1 : Int32) (σ : z_Mem) : Option (Int32 × z_Mem) :=
  if a1 < 0 then (some ((0 : Int32), σ)) else (if σ.1 c 2 ≤ a1 then (some ((0 : Int32), σ)) else (if (40 : Int32) ≤ a1 then (some ((0 : Int32), σ)) else (some ((1 : Int32), σ))))
theorem kX3_has (c : Nat) (hc : z_ls c) (a1 : Int32) (σ : z_Mem) (D : Nat) (hD : 1 ≤ D) : z_Call YC mX3_has D z_i [zR c, zI a1] σ (fX3_has c a1 σ) := by
  obtain ⟨D, rfl⟩ : ∃ E, D = E + 1 := ⟨D - 1, by omega⟩
  replace hD : 0 ≤ D := by omega
  refine z_entry (lv := [some (zR c), some (zI a1)]) (by decide) rfl (Nat.le_of_ble_eq_true rfl) rfl ?_
  rw [fX3_has]
  refine z_iload_n (pc := 0) dX3_has_0 rfl rfl ?_
  refine z_if_lt (tgt := 22) (pc := 1) dX3_has_1 (by decide) (fun _ => ?_) (fun _ => ?_)
  · refine z_iconst_0 (pc := 22) dX3_has_22 ?_
    exact z_iret (pc := 23) dX3_has_23 rfl rfl
  · refine z_iload_n (pc := 4) dX3_has_4 rfl rfl ?_
    refine z_aload_n (pc := 5) dX3_has_5 rfl rfl ?_
    refine gfX3_2 (pc := 6) dX3_has_6 hc.1 w_36_6 rfl ?_
    refine z_icmp_ge (tgt := 22) (pc := 9) dX3_has_9 (by decide) (fun _ => ?_) (fun _ => ?_)
    · refine z_iconst_0 (pc := 22) dX3_has_22 ?_
      exact z_iret (pc := 23) dX3_has_23 rfl rfl
    · refine z_iload_n (pc := 12) dX3_has_12 rfl rfl ?_
      refine z_bipush_40 (pc := 13) dX3_has_13 ?_
      refine z_icmp_ge (tgt := 22) (pc := 15) dX3_has_15 (by decide) (fun _ => ?_) (fun _ => ?_)
      · refine z_iconst_0 (pc := 22) dX3_has_22 ?_
        exact z_iret (pc := 23) dX3_has_23 rfl rfl
      · refine z_iconst_1 (pc := 18) dX3_has_18 ?_
        refine z_goto (tgt := 23) (pc := 19) dX3_has_19 (by decide) ?_
        exact z_iret (pc := 23) dX3_has_23 rfl rfl
def fX3_hasRun (c : Nat) (a1 : Int32) (a2 : Int32) (σ : z_Mem) : Option (Int32 × z_Mem) :=
  if a1 < 0 then (some ((0 : Int32), σ)) else (if a2 < 0 then (some ((0 : Int32), σ)) else (if σ.1 c 2 < a2 then (some ((0 : Int32), σ)) else (if (σ.1 c 2) - a2 < a1 then (some ((0 : Int32), σ)) else (some ((1 : Int32), σ)))))
theorem kX3_hasRun (c : Nat) (hc : z_ls c) (a1 : Int32) (a2 : Int32) (σ : z_Mem) (D : Nat) (hD : 1 ≤ D) : z_Call YC mX3_hasRun D z_i [zR c, zI a1, zI a2] σ (fX3_hasRun c a1 a2 σ) := by
  obtain ⟨D, rfl⟩ : ∃ E, D = E + 1 := ⟨D - 1, by omega⟩
  replace hD : 0 ≤ D := by omega
  refine z_entry (lv := [some (zR c), some (zI a1), some (zI a2)]) (by decide) rfl (Nat.le_of_ble_eq_true rfl) rfl ?_
  rw [fX3_hasRun]
  refine z_iload_n (pc := 0) dX3_hasRun_0 rfl rfl ?_
  refine z_if_lt (tgt := 30) (pc := 1) dX3_hasRun_1 (by decide) (fun _ => ?_) (fun _ => ?_)
  · refine z_iconst_0 (pc := 30) dX3_hasRun_30 ?_
    exact z_iret (pc := 31) dX3_hasRun_31 rfl rfl
  · refine z_iload_n (pc := 4) dX3_hasRun_4 rfl rfl ?_
    refine z_if_lt (tgt := 30) (pc := 5) dX3_hasRun_5 (by decide) (fun _ => ?_) (fun _ => ?_)
    · refine z_iconst_0 (pc := 30) dX3_hasRun_30 ?_
      exact z_iret (pc := 31) dX3_hasRun_31 rfl rfl
    · refine z_iload_n (pc := 8) dX3_hasRun_8 rfl rfl ?_
      refine z_aload_n (pc := 9) dX3_hasRun_9 rfl rfl ?_
      refine gfX3_2 (pc := 10) dX3_hasRun_10 hc.1 w_36_6 rfl ?_
      refine z_icmp_gt (tgt := 30) (pc := 13) dX3_hasRun_13 (by decide) (fun _ => ?_) (fun _ => ?_)
      · refine z_iconst_0 (pc := 30) dX3_hasRun_30 ?_
        exact z_iret (pc := 31) dX3_hasRun_31 rfl rfl
      · refine z_iload_n (pc := 16) dX3_hasRun_16 rfl rfl ?_
        refine z_aload_n (pc := 17) dX3_hasRun_17 rfl rfl ?_
        refine gfX3_2 (pc := 18) dX3_hasRun_18 hc.1 w_36_6 rfl ?_
        refine z_iload_n (pc := 21) dX3_hasRun_21 rfl rfl ?_
        refine z_isub (pc := 22) dX3_hasRun_22 ?_
        refine z_icmp_gt (tgt := 30) (pc := 23) dX3_hasRun_23 (by decide) (fun _ => ?_) (fun _ => ?_)
        · refine z_iconst_0 (pc := 30) dX3_hasRun_30 ?_
          exact z_iret (pc := 31) dX3_hasRun_31 rfl rfl
        · refine z_iconst_1 (pc := 26) dX3_hasRun_26 ?_
          refine z_goto (tgt := 31) (pc := 27) dX3_hasRun_27 (by decide) ?_
          exact z_iret (pc := 31) dX3_hasRun_31 rfl rfl
def fX3_put (c : Nat) (a1 : Int32) (a2 : Int32) (σ : z_Mem) : Option (Unit × z_Mem) :=
  z_bd (fX3_has c a1 σ) (fun r1 s1 => if r1 = 0 then (some ((), s1)) else (if s1.1 c 1 = 0 then (z_gd (z_in a1 40) (z_st (z_pt s1 (c + 1) (z_x a1) a2.toInt8.toInt32) (fun s4 => some ((), s4)))) else (if s1.1 c 1 = (1 : Int32) then (z_gd (z_in a1 40) (z_st (z_pt s1 (c + 1) (z_x a1) a2.toInt16.toInt32) (fun s3 => some ((), s3)))) else (z_gd (z_in a1 40) (z_st (z_pt s1 (c + 1) (z_x a1) a2) (fun s2 => some ((), s2)))))))
theorem kX3_put (c : Nat) (hc : z_ls c) (a1 : Int32) (a2 : Int32) (σ : z_Mem) (D : Nat) (hD : 2 ≤ D) : z_Call YC mX3_put D z_u [zR c, zI a1, zI a2] σ (fX3_put c a1 a2 σ) := by
  obtain ⟨D, rfl⟩ : ∃ E, D = E + 1 := ⟨D - 1, by omega⟩
  replace hD : 1 ≤ D := by omega
  refine z_entry (lv := [some (zR c), some (zI a1), some (zI a2)]) (by decide) rfl (Nat.le_of_ble_eq_true rfl) rfl ?_
  rw [fX3_put]
  refine z_aload_n (pc := 0) dX3_put_0 rfl rfl ?_
  refine z_iload_n (pc := 1) dX3_put_1 rfl rfl ?_
  refine z_V1i (pc := 2) dX3_put_2 lVX3_22 hc.1 rfl (Nat.le_of_ble_eq_true rfl) (kX3_has c hc a1 σ D (by omega)) (fun r1 s1 => ?_)
  refine z_if_eq (tgt := 40) (pc := 5) dX3_put_5 (by decide) (fun _ => ?_) (fun _ => ?_)
  · exact z_vret (pc := 40) dX3_put_40 rfl
  · refine z_aload_n (pc := 8) dX3_put_8 rfl rfl ?_
    refine gfX3_0 (pc := 9) dX3_put_9 hc.1 w_3_18 rfl ?_
    refine z_iload_n (pc := 12) dX3_put_12 rfl rfl ?_
    refine z_aload_n (pc := 13) dX3_put_13 rfl rfl ?_
    refine gfX3_1 (pc := 14) dX3_put_14 hc.1 w_3_19 rfl ?_
    refine z_if_ne (tgt := 25) (pc := 17) dX3_put_17 (by decide) (fun _ => ?_) (fun _ => ?_)
    · refine z_aload_n (pc := 25) dX3_put_25 rfl rfl ?_
      refine gfX3_1 (pc := 26) dX3_put_26 hc.1 w_3_19 rfl ?_
      refine z_iconst_1 (pc := 29) dX3_put_29 ?_
      refine z_icmp_ne (tgt := 38) (pc := 30) dX3_put_30 (by decide) (fun _ => ?_) (fun _ => ?_)
      · refine z_iload_n (pc := 38) dX3_put_38 rfl rfl ?_
        refine z_iast (pc := 39) dX3_put_39 hc.2 ?_
        refine z_let (fun s2 => ?_)
        exact z_vret (pc := 40) dX3_put_40 rfl
      · refine z_iload_n (pc := 33) dX3_put_33 rfl rfl ?_
        refine z_i2s (pc := 34) dX3_put_34 ?_
        refine z_goto (tgt := 39) (pc := 35) dX3_put_35 (by decide) ?_
        refine z_iast (pc := 39) dX3_put_39 hc.2 ?_
        refine z_let (fun s3 => ?_)
        exact z_vret (pc := 40) dX3_put_40 rfl
    · refine z_iload_n (pc := 20) dX3_put_20 rfl rfl ?_
      refine z_i2b (pc := 21) dX3_put_21 ?_
      refine z_goto (tgt := 39) (pc := 22) dX3_put_22 (by decide) ?_
      refine z_iast (pc := 39) dX3_put_39 hc.2 ?_
      refine z_let (fun s4 => ?_)
      exact z_vret (pc := 40) dX3_put_40 rfl
def fX0_firstUnlike_7 (c : Nat) (a1 : Nat) : Nat → Int32 → Int32 → z_Mem → Option (Int32 × z_Mem)
  | 0, _, _, _ => none
  | q + 1, l2, l3, σ => if σ.1 a1 2 ≤ l3 then (some ((-1 : Int32), σ)) else (if (40 : Int32) ≤ l3 then (some ((-1 : Int32), σ)) else (if l2 ≤ l3 then (some (l3, σ)) else (z_bd (fX0_holdFrom c l3 σ) (fun r2 s2 => z_gd (z_in l3 40) (if r2 = s2.1 (a1 + 1) (z_x l3) then (fX0_firstUnlike_7 c a1 q l2 (l3 + 1) s2) else (some (l3, s2)))))))
theorem kX0_firstUnlike_7 (D : Nat) (c : Nat) (a1 : Nat) (hc : z_lm c) (ha1 : z_ls a1) (hD : 4 ≤ D) : ∀ (q : Nat) (l2 : Int32) (l3 : Int32)  (σ : z_Mem), z_Go YC mX0_firstUnlike (D + 1) z_i 7 [some (zR c), some (zR a1), some (zI l2), some (zI l3)] [] σ (fX0_firstUnlike_7 c a1 q l2 l3 σ) := by
  intro q
  induction q with
  | zero => intros; exact z_none
  | succ q ih =>
    intro l2 l3 σ
    rw [fX0_firstUnlike_7]
    refine z_iload_n (pc := 7) dX0_firstUnlike_7 rfl rfl ?_
    refine z_aload_n (pc := 8) dX0_firstUnlike_8 rfl rfl ?_
    refine gfX3_2 (pc := 9) dX0_firstUnlike_9 ha1.1 w_35_1 rfl ?_
    refine z_icmp_ge (tgt := 48) (pc := 12) dX0_firstUnlike_12 (by decide) (fun _ => ?_) (fun _ => ?_)
    · refine z_iconst_m1 (pc := 48) dX0_firstUnlike_48 ?_
      exact z_iret (pc := 49) dX0_firstUnlike_49 rfl rfl
    · refine z_iload_n (pc := 15) dX0_firstUnlike_15 rfl rfl ?_
      refine z_bipush_40 (pc := 16) dX0_firstUnlike_16 ?_
      refine z_icmp_ge (tgt := 48) (pc := 18) dX0_firstUnlike_18 (by decide) (fun _ => ?_) (fun _ => ?_)
      · refine z_iconst_m1 (pc := 48) dX0_firstUnlike_48 ?_
        exact z_iret (pc := 49) dX0_firstUnlike_49 rfl rfl
      · refine z_iload_n (pc := 21) dX0_firstUnlike_21 rfl rfl ?_
        refine z_iload_n (pc := 22) dX0_firstUnlike_22 rfl rfl ?_
        refine z_icmp_ge (tgt := 40) (pc := 23) dX0_firstUnlike_23 (by decide) (fun _ => ?_) (fun _ => ?_)
        · refine z_iload_n (pc := 40) dX0_firstUnlike_40 rfl rfl ?_
          exact z_iret (pc := 41) dX0_firstUnlike_41 rfl rfl
        · refine z_aload_n (pc := 26) dX0_firstUnlike_26 rfl rfl ?_
          refine z_iload_n (pc := 27) dX0_firstUnlike_27 rfl rfl ?_
          refine z_V1i (pc := 28) dX0_firstUnlike_28 lVX0_84 hc.1 rfl (Nat.le_of_ble_eq_true rfl) (kX0_holdFrom c hc l3 σ D (by omega)) (fun r2 s2 => ?_)
          refine z_aload_n (pc := 31) dX0_firstUnlike_31 rfl rfl ?_
          refine gfX3_0 (pc := 32) dX0_firstUnlike_32 ha1.1 w_35_2 rfl ?_
          refine z_iload_n (pc := 35) dX0_firstUnlike_35 rfl rfl ?_
          refine z_iald (pc := 36) dX0_firstUnlike_36 ha1.2 ?_
          refine z_icmp_eq (tgt := 42) (pc := 37) dX0_firstUnlike_37 (by decide) (fun _ => ?_) (fun _ => ?_)
          · refine z_iinc (y := 1) (pc := 42) dX0_firstUnlike_42 rfl (by decide) (Nat.le_of_ble_eq_true rfl) (z_so4_3 rfl) ?_
            refine z_goto (tgt := 7) (pc := 45) dX0_firstUnlike_45 (by decide) ?_
            exact ih l2 (l3 + 1) s2
          · refine z_iload_n (pc := 40) dX0_firstUnlike_40 rfl rfl ?_
            exact z_iret (pc := 41) dX0_firstUnlike_41 rfl rfl
def fX0_firstUnlike (c : Nat) (a1 : Nat)  (σ : z_Mem) : Option (Int32 × z_Mem) :=
  z_bd (fX0_holds c σ) (fun r1 s1 => fX0_firstUnlike_7 c a1 z_FU r1 (0 : Int32) s1)
theorem kX0_firstUnlike (c : Nat) (a1 : Nat) (hc : z_lm c) (ha1 : z_ls a1)  (σ : z_Mem) (D : Nat) (hD : 5 ≤ D) : z_Call YC mX0_firstUnlike D z_i [zR c, zR a1] σ (fX0_firstUnlike c a1 σ) := by
  obtain ⟨D, rfl⟩ : ∃ E, D = E + 1 := ⟨D - 1, by omega⟩
  replace hD : 4 ≤ D := by omega
  refine z_entry (lv := [some (zR c), some (zR a1), none, none]) (by decide) rfl (Nat.le_of_ble_eq_true rfl) rfl ?_
  rw [fX0_firstUnlike]
  refine z_aload_n (pc := 0) dX0_firstUnlike_0 rfl rfl ?_
  refine z_V0i (pc := 1) dX0_firstUnlike_1 lVX0_80 hc.1 rfl (Nat.le_of_ble_eq_true rfl) (kX0_holds c hc σ D (by omega)) (fun r1 s1 => ?_)
  refine z_istore_n (pc := 4) dX0_firstUnlike_4 rfl (Nat.le_of_ble_eq_true rfl) (z_so4_2 rfl) ?_
  refine z_iconst_0 (pc := 5) dX0_firstUnlike_5 ?_
  refine z_istore_n (pc := 6) dX0_firstUnlike_6 rfl (Nat.le_of_ble_eq_true rfl) (z_so4_3 rfl) ?_
  exact kX0_firstUnlike_7 D c a1 hc ha1 hD z_FU r1 (0 : Int32) s1
