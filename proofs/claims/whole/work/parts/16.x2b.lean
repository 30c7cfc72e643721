def zGA_ok (G : Nat → Int32 → z_Mem → Option (Int32 × z_Mem)) (D : Nat) : Prop := (∀ (a1 : Int32) (σ : z_Mem), z_Call YC mX2_readEither D z_i [zR 5, zI a1] σ (G 0 a1 σ)) ∧ (∀ (a1 : Int32) (σ : z_Mem), z_Call YC mX2_readBoth D z_i [zR 5, zI a1] σ (G 1 a1 σ)) ∧ (∀ (a1 : Int32) (σ : z_Mem), z_Call YC mX2_readDenial D z_i [zR 5, zI a1] σ (G 2 a1 σ)) ∧ (∀ (a1 : Int32) (σ : z_Mem), z_Call YC mX2_readComparison D z_i [zR 5, zI a1] σ (G 3 a1 σ)) ∧ (∀ (a1 : Int32) (σ : z_Mem), z_Call YC mX2_readSum D z_i [zR 5, zI a1] σ (G 4 a1 σ)) ∧ (∀ (a1 : Int32) (σ : z_Mem), z_Call YC mX2_readTerm D z_i [zR 5, zI a1] σ (G 5 a1 σ)) ∧ (∀ (a1 : Int32) (σ : z_Mem), z_Call YC mX2_readOne D z_i [zR 5, zI a1] σ (G 6 a1 σ)) ∧ (∀ (a1 : Int32) (σ : z_Mem), z_Call YC mX2_readNegation D z_i [zR 5, zI a1] σ (G 7 a1 σ)) ∧ (∀ (a1 : Int32) (σ : z_Mem), z_Call YC mX2_readBrackets D z_i [zR 5, zI a1] σ (G 8 a1 σ))
def fX2_readEither_8 (G : Nat → Int32 → z_Mem → Option (Int32 × z_Mem))  : Nat → Int32 → Int32 → Int32 → z_Mem → Option (Int32 × z_Mem)
  | 0, _, _, _, _ => none
  | q + 1, l1, l2, l3, σ => if (160 : Int32) ≤ l3 then (z_gd (z_bool l2) (some (l2, σ))) else (if l2 = 0 then (z_gd (z_bool l2) (some (l2, σ))) else (if σ.1 5 5 = (265 : Int32) then (z_bd (fX2_advance σ) (fun _ s2 => z_bd (G 1 l1 s2) (fun r3 s3 => z_bd (fX4_put (20265 : Int32) s3) (fun _ s4 => fX2_readEither_8 G  q l1 r3 (l3 + 1) s4)))) else (z_gd (z_bool l2) (some (l2, σ)))))
theorem kX2_readEither_8 (D : Nat) (G : Nat → Int32 → z_Mem → Option (Int32 × z_Mem)) (hG : zGA_ok G D)   (hD : 7 ≤ D) : ∀ (q : Nat) (l1 : Int32) (l2 : Int32) (l3 : Int32)  (σ : z_Mem), z_Go YC mX2_readEither (D + 1) z_i 8 [some (zR 5), some (zI l1), some (zI l2), some (zI l3)] [] σ (fX2_readEither_8 G q l1 l2 l3 σ) := by
  intro q
  induction q with
  | zero => intros; exact z_none
  | succ q ih =>
    intro l1 l2 l3 σ
    rw [fX2_readEither_8]
    refine z_iload_n (pc := 8) dX2_readEither_8 rfl rfl ?_
    refine z_sipush_160 (pc := 9) dX2_readEither_9 ?_
    refine z_icmp_ge (tgt := 55) (pc := 12) dX2_readEither_12 (by decide) (fun _ => ?_) (fun _ => ?_)
    · refine z_iload_n (pc := 55) dX2_readEither_55 rfl rfl ?_
      exact z_guard fun hz => z_iret (pc := 56) dX2_readEither_56 rfl (z_narB hz)
    · refine z_iload_n (pc := 15) dX2_readEither_15 rfl rfl ?_
      refine z_if_eq (tgt := 55) (pc := 16) dX2_readEither_16 (by decide) (fun _ => ?_) (fun _ => ?_)
      · refine z_iload_n (pc := 55) dX2_readEither_55 rfl rfl ?_
        exact z_guard fun hz => z_iret (pc := 56) dX2_readEither_56 rfl (z_narB hz)
      · refine z_aload_n (pc := 19) dX2_readEither_19 rfl rfl ?_
        refine gfX2_5 (pc := 20) dX2_readEither_20 yc_5 w_6_7 rfl ?_
        refine z_sipush_265 (pc := 23) dX2_readEither_23 ?_
        refine z_icmp_ne (tgt := 55) (pc := 26) dX2_readEither_26 (by decide) (fun _ => ?_) (fun _ => ?_)
        · refine z_iload_n (pc := 55) dX2_readEither_55 rfl rfl ?_
          exact z_guard fun hz => z_iret (pc := 56) dX2_readEither_56 rfl (z_narB hz)
        · refine z_aload_n (pc := 29) dX2_readEither_29 rfl rfl ?_
          refine z_V0u (pc := 30) dX2_readEither_30 lVX2_31 yc_5 rfl (Nat.le_of_ble_eq_true rfl) (kX2_advance σ D (by omega)) (fun _ s2 => ?_)
          refine z_aload_n (pc := 33) dX2_readEither_33 rfl rfl ?_
          refine z_iload_n (pc := 34) dX2_readEither_34 rfl rfl ?_
          refine z_V1i (pc := 35) dX2_readEither_35 lVX2_54 yc_5 rfl (Nat.le_of_ble_eq_true rfl) (hG.2.1 l1 s2) (fun r3 s3 => ?_)
          refine z_istore_n (pc := 38) dX2_readEither_38 rfl (Nat.le_of_ble_eq_true rfl) (z_so4_2 rfl) ?_
          refine z_aload_n (pc := 39) dX2_readEither_39 rfl rfl ?_
          refine gfX2_0 (pc := 40) dX2_readEither_40 yc_5 w_2_22 rfl ?_
          refine z_sipush_20265 (pc := 43) dX2_readEither_43 ?_
          refine z_V1u (pc := 46) dX2_readEither_46 lVX2_57 yc_1 rfl (Nat.le_of_ble_eq_true rfl) (kX4_put (20265 : Int32) s3 D (by omega)) (fun _ s4 => ?_)
          refine z_iinc (y := 1) (pc := 49) dX2_readEither_49 rfl (by decide) (Nat.le_of_ble_eq_true rfl) (z_so4_3 rfl) ?_
          refine z_goto (tgt := 8) (pc := 52) dX2_readEither_52 (by decide) ?_
          exact ih l1 r3 (l3 + 1) s4
def fX2_readEither_b (G : Nat → Int32 → z_Mem → Option (Int32 × z_Mem)) (a1 : Int32) (σ : z_Mem) : Option (Int32 × z_Mem) :=
  z_bd (G 1 a1 σ) (fun r1 s1 => fX2_readEither_8 G z_FU a1 r1 (0 : Int32) s1)
theorem kX2_readEither_b (D : Nat) (G : Nat → Int32 → z_Mem → Option (Int32 × z_Mem)) (hG : zGA_ok G D) (hD : 7 ≤ D) (a1 : Int32) (σ : z_Mem) : z_Call YC mX2_readEither (D + 1) z_i [zR 5, zI a1] σ (fX2_readEither_b G a1 σ) := by
  refine z_entry (lv := [some (zR 5), some (zI a1), none, none]) (by decide) rfl (Nat.le_of_ble_eq_true rfl) rfl ?_
  rw [fX2_readEither_b]
  refine z_aload_n (pc := 0) dX2_readEither_0 rfl rfl ?_
  refine z_iload_n (pc := 1) dX2_readEither_1 rfl rfl ?_
  refine z_V1i (pc := 2) dX2_readEither_2 lVX2_54 yc_5 rfl (Nat.le_of_ble_eq_true rfl) (hG.2.1 a1 σ) (fun r1 s1 => ?_)
  refine z_istore_n (pc := 5) dX2_readEither_5 rfl (Nat.le_of_ble_eq_true rfl) (z_so4_2 rfl) ?_
  refine z_iconst_0 (pc := 6) dX2_readEither_6 ?_
  refine z_istore_n (pc := 7) dX2_readEither_7 rfl (Nat.le_of_ble_eq_true rfl) (z_so4_3 rfl) ?_
  exact kX2_readEither_8 D G hG  hD z_FU a1 r1 (0 : Int32) s1
def fX2_readBoth_8 (G : Nat → Int32 → z_Mem → Option (Int32 × z_Mem))  : Nat → Int32 → Int32 → Int32 → z_Mem → Option (Int32 × z_Mem)
  | 0, _, _, _, _ => none
  | q + 1, l1, l2, l3, σ => if (160 : Int32) ≤ l3 then (z_gd (z_bool l2) (some (l2, σ))) else (if l2 = 0 then (z_gd (z_bool l2) (some (l2, σ))) else (if σ.1 5 5 = (266 : Int32) then (z_bd (fX2_advance σ) (fun _ s2 => z_bd (G 2 l1 s2) (fun r3 s3 => z_bd (fX4_put (20266 : Int32) s3) (fun _ s4 => fX2_readBoth_8 G  q l1 r3 (l3 + 1) s4)))) else (z_gd (z_bool l2) (some (l2, σ)))))
theorem kX2_readBoth_8 (D : Nat) (G : Nat → Int32 → z_Mem → Option (Int32 × z_Mem)) (hG : zGA_ok G D)   (hD : 7 ≤ D) : ∀ (q : Nat) (l1 : Int32) (l2 : Int32) (l3 : Int32)  (σ : z_Mem), z_Go YC mX2_readBoth (D + 1) z_i 8 [some (zR 5), some (zI l1), some (zI l2), some (zI l3)] [] σ (fX2_readBoth_8 G q l1 l2 l3 σ) := by
  intro q
  induction q with
  | zero => intros; exact z_none
  | succ q ih =>
    intro l1 l2 l3 σ
    rw [fX2_readBoth_8]
    refine z_iload_n (pc := 8) dX2_readBoth_8 rfl rfl ?_
    refine z_sipush_160 (pc := 9) dX2_readBoth_9 ?_
    refine z_icmp_ge (tgt := 55) (pc := 12) dX2_readBoth_12 (by decide) (fun _ => ?_) (fun _ => ?_)
    · refine z_iload_n (pc := 55) dX2_readBoth_55 rfl rfl ?_
      exact z_guard fun hz => z_iret (pc := 56) dX2_readBoth_56 rfl (z_narB hz)
    · refine z_iload_n (pc := 15) dX2_readBoth_15 rfl rfl ?_
      refine z_if_eq (tgt := 55) (pc := 16) dX2_readBoth_16 (by decide) (fun _ => ?_) (fun _ => ?_)
      · refine z_iload_n (pc := 55) dX2_readBoth_55 rfl rfl ?_
        exact z_guard fun hz => z_iret (pc := 56) dX2_readBoth_56 rfl (z_narB hz)
      · refine z_aload_n (pc := 19) dX2_readBoth_19 rfl rfl ?_
        refine gfX2_5 (pc := 20) dX2_readBoth_20 yc_5 w_6_7 rfl ?_
        refine z_sipush_266 (pc := 23) dX2_readBoth_23 ?_
        refine z_icmp_ne (tgt := 55) (pc := 26) dX2_readBoth_26 (by decide) (fun _ => ?_) (fun _ => ?_)
        · refine z_iload_n (pc := 55) dX2_readBoth_55 rfl rfl ?_
          exact z_guard fun hz => z_iret (pc := 56) dX2_readBoth_56 rfl (z_narB hz)
        · refine z_aload_n (pc := 29) dX2_readBoth_29 rfl rfl ?_
          refine z_V0u (pc := 30) dX2_readBoth_30 lVX2_31 yc_5 rfl (Nat.le_of_ble_eq_true rfl) (kX2_advance σ D (by omega)) (fun _ s2 => ?_)
          refine z_aload_n (pc := 33) dX2_readBoth_33 rfl rfl ?_
          refine z_iload_n (pc := 34) dX2_readBoth_34 rfl rfl ?_
          refine z_V1i (pc := 35) dX2_readBoth_35 lVX2_60 yc_5 rfl (Nat.le_of_ble_eq_true rfl) (hG.2.2.1 l1 s2) (fun r3 s3 => ?_)
          refine z_istore_n (pc := 38) dX2_readBoth_38 rfl (Nat.le_of_ble_eq_true rfl) (z_so4_2 rfl) ?_
          refine z_aload_n (pc := 39) dX2_readBoth_39 rfl rfl ?_
          refine gfX2_0 (pc := 40) dX2_readBoth_40 yc_5 w_2_22 rfl ?_
          refine z_sipush_20266 (pc := 43) dX2_readBoth_43 ?_
          refine z_V1u (pc := 46) dX2_readBoth_46 lVX2_57 yc_1 rfl (Nat.le_of_ble_eq_true rfl) (kX4_put (20266 : Int32) s3 D (by omega)) (fun _ s4 => ?_)
          refine z_iinc (y := 1) (pc := 49) dX2_readBoth_49 rfl (by decide) (Nat.le_of_ble_eq_true rfl) (z_so4_3 rfl) ?_
          refine z_goto (tgt := 8) (pc := 52) dX2_readBoth_52 (by decide) ?_
          exact ih l1 r3 (l3 + 1) s4
def fX2_readBoth_b (G : Nat → Int32 → z_Mem → Option (Int32 × z_Mem)) (a1 : Int32) (σ : z_Mem) : Option (Int32 × z_Mem) :=
  z_bd (G 2 a1 σ) (fun r1 s1 => fX2_readBoth_8 G z_FU a1 r1 (0 : Int32) s1)
theorem kX2_readBoth_b (D : Nat) (G : Nat → Int32 → z_Mem → Option (Int32 × z_Mem)) (hG : zGA_ok G D) (hD : 7 ≤ D) (a1 : Int32) (σ : z_Mem) : z_Call YC mX2_readBoth (D + 1) z_i [zR 5, zI a1] σ (fX2_readBoth_b G a1 σ) := by
  refine z_entry (lv := [some (zR 5), some (zI a1), none, none]) (by decide) rfl (Nat.le_of_ble_eq_true rfl) rfl ?_
  rw [fX2_readBoth_b]
  refine z_aload_n (pc := 0) dX2_readBoth_0 rfl rfl ?_
  refine z_iload_n (pc := 1) dX2_readBoth_1 rfl rfl ?_
  refine z_V1i (pc := 2) dX2_readBoth_2 lVX2_60 yc_5 rfl (Nat.le_of_ble_eq_true rfl) (hG.2.2.1 a1 σ) (fun r1 s1 => ?_)
  refine z_istore_n (pc := 5) dX2_readBoth_5 rfl (Nat.le_of_ble_eq_true rfl) (z_so4_2 rfl) ?_
  refine z_iconst_0 (pc := 6) dX2_readBoth_6 ?_
  refine z_istore_n (pc := 7) dX2_readBoth_7 rfl (Nat.le_of_ble_eq_true rfl) (z_so4_3 rfl) ?_
  exact kX2_readBoth_8 D G hG  hD z_FU a1 r1 (0 : Int32) s1
def fX2_readDenial_b (G : Nat → Int32 → z_Mem → Option (Int32 × z_Mem)) (a1 : Int32) (σ : z_Mem) : Option (Int32 × z_Mem) :=
  if σ.1 5 5 = (267 : Int32) then (if a1 < (5 : Int32) then (z_bd (fX2_advance σ) (fun _ s1 => z_bd (G 2 (a1 + (1 : Int32)) s1) (fun r2 s2 => z_bd (fX4_put (20267 : Int32) s2) (fun _ s3 => z_gd (z_bool r2) (some (r2, s3)))))) else (some ((0 : Int32), σ))) else (z_bd (G 3 a1 σ) (fun r4 s4 => z_gd (z_bool r4) (some (r4, s4))))
theorem kX2_readDenial_b (D : Nat) (G : Nat → Int32 → z_Mem → Option (Int32 × z_Mem)) (hG : zGA_ok G D) (hD : 7 ≤ D) (a1 : Int32) (σ : z_Mem) : z_Call YC mX2_readDenial (D + 1) z_i [zR 5, zI a1] σ (fX2_readDenial_b G a1 σ) := by
  refine z_entry (lv := [some (zR 5), some (zI a1), none]) (by decide) rfl (Nat.le_of_ble_eq_true rfl) rfl ?_
  rw [fX2_readDenial_b]
  refine z_aload_n (pc := 0) dX2_readDenial_0 rfl rfl ?_
  refine gfX2_5 (pc := 1) dX2_readDenial_1 yc_5 w_6_7 rfl ?_
  refine z_sipush_267 (pc := 4) dX2_readDenial_4 ?_
  refine z_icmp_eq (tgt := 16) (pc := 7) dX2_readDenial_7 (by decide) (fun _ => ?_) (fun _ => ?_)
  · refine z_iload_n (pc := 16) dX2_readDenial_16 rfl rfl ?_
    refine z_iconst_5 (pc := 17) dX2_readDenial_17 ?_
    refine z_icmp_lt (tgt := 23) (pc := 18) dX2_readDenial_18 (by decide) (fun _ => ?_) (fun _ => ?_)
    · refine z_aload_n (pc := 23) dX2_readDenial_23 rfl rfl ?_
      refine z_V0u (pc := 24) dX2_readDenial_24 lVX2_31 yc_5 rfl (Nat.le_of_ble_eq_true rfl) (kX2_advance σ D (by omega)) (fun _ s1 => ?_)
      refine z_aload_n (pc := 27) dX2_readDenial_27 rfl rfl ?_
      refine z_iload_n (pc := 28) dX2_readDenial_28 rfl rfl ?_
      refine z_iconst_1 (pc := 29) dX2_readDenial_29 ?_
      refine z_iadd (pc := 30) dX2_readDenial_30 ?_
      refine z_V1i (pc := 31) dX2_readDenial_31 lVX2_60 yc_5 rfl (Nat.le_of_ble_eq_true rfl) (hG.2.2.1 (a1 + (1 : Int32)) s1) (fun r2 s2 => ?_)
      refine z_istore_n (pc := 34) dX2_readDenial_34 rfl (Nat.le_of_ble_eq_true rfl) (z_so3_2 rfl) ?_
      refine z_aload_n (pc := 35) dX2_readDenial_35 rfl rfl ?_
      refine gfX2_0 (pc := 36) dX2_readDenial_36 yc_5 w_2_22 rfl ?_
      refine z_sipush_20267 (pc := 39) dX2_readDenial_39 ?_
      refine z_V1u (pc := 42) dX2_readDenial_42 lVX2_57 yc_1 rfl (Nat.le_of_ble_eq_true rfl) (kX4_put (20267 : Int32) s2 D (by omega)) (fun _ s3 => ?_)
      refine z_iload_n (pc := 45) dX2_readDenial_45 rfl rfl ?_
      exact z_guard fun hz => z_iret (pc := 46) dX2_readDenial_46 rfl (z_narB hz)
    · refine z_iconst_0 (pc := 21) dX2_readDenial_21 ?_
      exact z_iret (pc := 22) dX2_readDenial_22 rfl rfl
  · refine z_aload_n (pc := 10) dX2_readDenial_10 rfl rfl ?_
    refine z_iload_n (pc := 11) dX2_readDenial_11 rfl rfl ?_
    refine z_V1i (pc := 12) dX2_readDenial_12 lVX2_63 yc_5 rfl (Nat.le_of_ble_eq_true rfl) (hG.2.2.2.1 a1 σ) (fun r4 s4 => ?_)
    exact z_guard fun hz => z_iret (pc := 15) dX2_readDenial_15 rfl (z_narB hz)
def fX2_readComparison_b (G : Nat → Int32 → z_Mem → Option (Int32 × z_Mem)) (a1 : Int32) (σ : z_Mem) : Option (Int32 × z_Mem) :=
  z_bd (G 4 a1 σ) (fun r1 s1 => if r1 = 0 then (z_gd (z_bool r1) (some (r1, s1))) else (if s1.1 5 5 = (60 : Int32) then (z_bd (fX2_advance s1) (fun _ s2 => z_bd (G 4 a1 s2) (fun r3 s3 => z_bd (fX4_put ((20000 : Int32) + (s1.1 5 5)) s3) (fun _ s4 => z_gd (z_bool r3) (some (r3, s4)))))) else (if s1.1 5 5 = (61 : Int32) then (z_bd (fX2_advance s1) (fun _ s5 => z_bd (G 4 a1 s5) (fun r6 s6 => z_bd (fX4_put ((20000 : Int32) + (s1.1 5 5)) s6) (fun _ s7 => z_gd (z_bool r6) (some (r6, s7)))))) else (z_gd (z_bool r1) (some (r1, s1))))))
theorem kX2_readComparison_b (D : Nat) (G : Nat → Int32 → z_Mem → Option (Int32 × z_Mem)) (hG : zGA_ok G D) (hD : 7 ≤ D) (a1 : Int32) (σ : z_Mem) : z_Call YC mX2_readComparison (D + 1) z_i [zR 5, zI a1] σ (fX2_readComparison_b G a1 σ) := by
  refine z_entry (lv := [some (zR 5), some (zI a1), none, none]) (by decide) rfl (Nat.le_of_ble_eq_true rfl) rfl ?_
  rw [fX2_readComparison_b]
  refine z_aload_n (pc := 0) dX2_readComparison_0 rfl rfl ?_
  refine z_iload_n (pc := 1) dX2_readComparison_1 rfl rfl ?_
  refine z_V1i (pc := 2) dX2_readComparison_2 lVX2_66 yc_5 rfl (Nat.le_of_ble_eq_true rfl) (hG.2.2.2.2.1 a1 σ) (fun r1 s1 => ?_)
  refine z_istore_n (pc := 5) dX2_readComparison_5 rfl (Nat.le_of_ble_eq_true rfl) (z_so4_2 rfl) ?_
  refine z_iload_n (pc := 6) dX2_readComparison_6 rfl rfl ?_
  refine z_if_eq (tgt := 55) (pc := 7) dX2_readComparison_7 (by decide) (fun _ => ?_) (fun _ => ?_)
  · refine z_iload_n (pc := 55) dX2_readComparison_55 rfl rfl ?_
    exact z_guard fun hz => z_iret (pc := 56) dX2_readComparison_56 rfl (z_narB hz)
  · refine z_aload_n (pc := 10) dX2_readComparison_10 rfl rfl ?_
    refine gfX2_5 (pc := 11) dX2_readComparison_11 yc_5 w_6_7 rfl ?_
    refine z_bipush_60 (pc := 14) dX2_readComparison_14 ?_
    refine z_icmp_eq (tgt := 28) (pc := 16) dX2_readComparison_16 (by decide) (fun _ => ?_) (fun _ => ?_)
    · refine z_aload_n (pc := 28) dX2_readComparison_28 rfl rfl ?_
      refine gfX2_5 (pc := 29) dX2_readComparison_29 yc_5 w_6_7 rfl ?_
      refine z_istore_n (pc := 32) dX2_readComparison_32 rfl (Nat.le_of_ble_eq_true rfl) (z_so4_3 rfl) ?_
      refine z_aload_n (pc := 33) dX2_readComparison_33 rfl rfl ?_
      refine z_V0u (pc := 34) dX2_readComparison_34 lVX2_31 yc_5 rfl (Nat.le_of_ble_eq_true rfl) (kX2_advance s1 D (by omega)) (fun _ s2 => ?_)
      refine z_aload_n (pc := 37) dX2_readComparison_37 rfl rfl ?_
      refine z_iload_n (pc := 38) dX2_readComparison_38 rfl rfl ?_
      refine z_V1i (pc := 39) dX2_readComparison_39 lVX2_66 yc_5 rfl (Nat.le_of_ble_eq_true rfl) (hG.2.2.2.2.1 a1 s2) (fun r3 s3 => ?_)
      refine z_istore_n (pc := 42) dX2_readComparison_42 rfl (Nat.le_of_ble_eq_true rfl) (z_so4_2 rfl) ?_
      refine z_aload_n (pc := 43) dX2_readComparison_43 rfl rfl ?_
      refine gfX2_0 (pc := 44) dX2_readComparison_44 yc_5 w_2_22 rfl ?_
      refine z_sipush_20000 (pc := 47) dX2_readComparison_47 ?_
      refine z_iload_n (pc := 50) dX2_readComparison_50 rfl rfl ?_
      refine z_iadd (pc := 51) dX2_readComparison_51 ?_
      refine z_V1u (pc := 52) dX2_readComparison_52 lVX2_57 yc_1 rfl (Nat.le_of_ble_eq_true rfl) (kX4_put ((20000 : Int32) + (s1.1 5 5)) s3 D (by omega)) (fun _ s4 => ?_)
      refine z_iload_n (pc := 55) dX2_readComparison_55 rfl rfl ?_
      exact z_guard fun hz => z_iret (pc := 56) dX2_readComparison_56 rfl (z_narB hz)
    · refine z_aload_n (pc := 19) dX2_readComparison_19 rfl rfl ?_
      refine gfX2_5 (pc := 20) dX2_readComparison_20 yc_5 w_6_7 rfl ?_
      refine z_bipush_61 (pc := 23) dX2_readComparison_23 ?_
      refine z_icmp_ne (tgt := 55) (pc := 25) dX2_readComparison_25 (by decide) (fun _ => ?_) (fun _ => ?_)
      · refine z_iload_n (pc := 55) dX2_readComparison_55 rfl rfl ?_
        exact z_guard fun hz => z_iret (pc := 56) dX2_readComparison_56 rfl (z_narB hz)
      · refine z_aload_n (pc := 28) dX2_readComparison_28 rfl rfl ?_
        refine gfX2_5 (pc := 29) dX2_readComparison_29 yc_5 w_6_7 rfl ?_
        refine z_istore_n (pc := 32) dX2_readComparison_32 rfl (Nat.le_of_ble_eq_true rfl) (z_so4_3 rfl) ?_
        refine z_aload_n (pc := 33) dX2_readComparison_33 rfl rfl ?_
        refine z_V0u (pc := 34) dX2_readComparison_34 lVX2_31 yc_5 rfl (Nat.le_of_ble_eq_true rfl) (kX2_advance s1 D (by omega)) (fun _ s5 => ?_)
        refine z_aload_n (pc := 37) dX2_readComparison_37 rfl rfl ?_
        refine z_iload_n (pc := 38) dX2_readComparison_38 rfl rfl ?_
        refine z_V1i (pc := 39) dX2_readComparison_39 lVX2_66 yc_5 rfl (Nat.le_of_ble_eq_true rfl) (hG.2.2.2.2.1 a1 s5) (fun r6 s6 => ?_)
        refine z_istore_n (pc := 42) dX2_readComparison_42 rfl (Nat.le_of_ble_eq_true rfl) (z_so4_2 rfl) ?_
        refine z_aload_n (pc := 43) dX2_readComparison_43 rfl rfl ?_
        refine gfX2_0 (pc := 44) dX2_readComparison_44 yc_5 w_2_22 rfl ?_
        refine z_sipush_20000 (pc := 47) dX2_readComparison_47 ?_
        refine z_iload_n (pc := 50) dX2_readComparison_50 rfl rfl ?_
        refine z_iadd (pc := 51) dX2_readComparison_51 ?_
        refine z_V1u (pc := 52) dX2_readComparison_52 lVX2_57 yc_1 rfl (Nat.le_of_ble_eq_true rfl) (kX4_put ((20000 : Int32) + (s1.1 5 5)) s6 D (by omega)) (fun _ s7 => ?_)
        refine z_iload_n (pc := 55) dX2_readComparison_55 rfl rfl ?_
        exact z_guard fun hz => z_iret (pc := 56) dX2_readComparison_56 rfl (z_narB hz)
def fX2_readSum_8 (G : Nat → Int32 → z_Mem → Option (Int32 × z_Mem))  : Nat → Int32 → Int32 → Int32 → z_Mem → Option (Int32 × z_Mem)
  | 0, _, _, _, _ => none
  | q + 1, l1, l2, l3, σ => if (160 : Int32) ≤ l3 then (z_gd (z_bool l2) (some (l2, σ))) else (if l2 = 0 then (z_gd (z_bool l2) (some (l2, σ))) else (if σ.1 5 5 = (43 : Int32) then (z_bd (fX2_advance σ) (fun _ s2 => z_bd (G 5 l1 s2) (fun r3 s3 => z_bd (fX4_put ((20000 : Int32) + (σ.1 5 5)) s3) (fun _ s4 => fX2_readSum_8 G  q l1 r3 (l3 + 1) s4)))) else (if σ.1 5 5 = (45 : Int32) then (z_bd (fX2_advance σ) (fun _ s5 => z_bd (G 5 l1 s5) (fun r6 s6 => z_bd (fX4_put ((20000 : Int32) + (σ.1 5 5)) s6) (fun _ s7 => fX2_readSum_8 G  q l1 r6 (l3 + 1) s7)))) else (z_gd (z_bool l2) (some (l2, σ))))))
theorem kX2_readSum_8 (D : Nat) (G : Nat → Int32 → z_Mem → Option (Int32 × z_Mem)) (hG : zGA_ok G D)   (hD : 7 ≤ D) : ∀ (q : Nat) (l1 : Int32) (l2 : Int32) (l3 : Int32)  (σ : z_Mem), z_Go YC mX2_readSum (D + 1) z_i 8 [some (zR 5), some (zI l1), some (zI l2), some (zI l3), none] [] σ (fX2_readSum_8 G q l1 l2 l3 σ) := by
  intro q
  induction q with
  | zero => intros; exact z_none
  | succ q ih =>
    intro l1 l2 l3 σ
    rw [fX2_readSum_8]
    refine z_iload_n (pc := 8) dX2_readSum_8 rfl rfl ?_
    refine z_sipush_160 (pc := 9) dX2_readSum_9 ?_
    refine z_icmp_ge (tgt := 72) (pc := 12) dX2_readSum_12 (by decide) (fun _ => ?_) (fun _ => ?_)
    · refine z_iload_n (pc := 72) dX2_readSum_72 rfl rfl ?_
      exact z_guard fun hz => z_iret (pc := 73) dX2_readSum_73 rfl (z_narB hz)
    · refine z_iload_n (pc := 15) dX2_readSum_15 rfl rfl ?_
      refine z_if_eq (tgt := 72) (pc := 16) dX2_readSum_16 (by decide) (fun _ => ?_) (fun _ => ?_)
      · refine z_iload_n (pc := 72) dX2_readSum_72 rfl rfl ?_
        exact z_guard fun hz => z_iret (pc := 73) dX2_readSum_73 rfl (z_narB hz)
      · refine z_aload_n (pc := 19) dX2_readSum_19 rfl rfl ?_
        refine gfX2_5 (pc := 20) dX2_readSum_20 yc_5 w_6_7 rfl ?_
        refine z_bipush_43 (pc := 23) dX2_readSum_23 ?_
        refine z_icmp_eq (tgt := 37) (pc := 25) dX2_readSum_25 (by decide) (fun _ => ?_) (fun _ => ?_)
        · refine z_aload_n (pc := 37) dX2_readSum_37 rfl rfl ?_
          refine gfX2_5 (pc := 38) dX2_readSum_38 yc_5 w_6_7 rfl ?_
          refine z_istore (pc := 41) dX2_readSum_41 (Nat.le_of_ble_eq_true rfl) (z_so5_4 rfl) ?_
          refine z_aload_n (pc := 43) dX2_readSum_43 rfl rfl ?_
          refine z_V0u (pc := 44) dX2_readSum_44 lVX2_31 yc_5 rfl (Nat.le_of_ble_eq_true rfl) (kX2_advance σ D (by omega)) (fun _ s2 => ?_)
          refine z_aload_n (pc := 47) dX2_readSum_47 rfl rfl ?_
          refine z_iload_n (pc := 48) dX2_readSum_48 rfl rfl ?_
          refine z_V1i (pc := 49) dX2_readSum_49 lVX2_69 yc_5 rfl (Nat.le_of_ble_eq_true rfl) (hG.2.2.2.2.2.1 l1 s2) (fun r3 s3 => ?_)
          refine z_istore_n (pc := 52) dX2_readSum_52 rfl (Nat.le_of_ble_eq_true rfl) (z_so5_2 rfl) ?_
          refine z_aload_n (pc := 53) dX2_readSum_53 rfl rfl ?_
          refine gfX2_0 (pc := 54) dX2_readSum_54 yc_5 w_2_22 rfl ?_
          refine z_sipush_20000 (pc := 57) dX2_readSum_57 ?_
          refine z_iload (pc := 60) dX2_readSum_60 rfl ?_
          refine z_iadd (pc := 62) dX2_readSum_62 ?_
          refine z_V1u (pc := 63) dX2_readSum_63 lVX2_57 yc_1 rfl (Nat.le_of_ble_eq_true rfl) (kX4_put ((20000 : Int32) + (σ.1 5 5)) s3 D (by omega)) (fun _ s4 => ?_)
          refine z_iinc (y := 1) (pc := 66) dX2_readSum_66 rfl (by decide) (Nat.le_of_ble_eq_true rfl) (z_so5_3 rfl) ?_
          refine z_goto (tgt := 8) (pc := 69) dX2_readSum_69 (by decide) ?_
          exact z_weak (lv' := [some (zR 5), some (zI l1), some (zI r3), some (zI (l3 + 1)), none]) (z_sub_ok ⟨rfl, rfl, rfl, rfl, trivial⟩) (ih l1 r3 (l3 + 1) s4)
        · refine z_aload_n (pc := 28) dX2_readSum_28 rfl rfl ?_
          refine gfX2_5 (pc := 29) dX2_readSum_29 yc_5 w_6_7 rfl ?_
          refine z_bipush_45 (pc := 32) dX2_readSum_32 ?_
          refine z_icmp_ne (tgt := 72) (pc := 34) dX2_readSum_34 (by decide) (fun _ => ?_) (fun _ => ?_)
          · refine z_iload_n (pc := 72) dX2_readSum_72 rfl rfl ?_
            exact z_guard fun hz => z_iret (pc := 73) dX2_readSum_73 rfl (z_narB hz)
          · refine z_aload_n (pc := 37) dX2_readSum_37 rfl rfl ?_
            refine gfX2_5 (pc := 38) dX2_readSum_38 yc_5 w_6_7 rfl ?_
            refine z_istore (pc := 41) dX2_readSum_41 (Nat.le_of_ble_eq_true rfl) (z_so5_4 rfl) ?_
            refine z_aload_n (pc := 43) dX2_readSum_43 rfl rfl ?_
            refine z_V0u (pc := 44) dX2_readSum_44 lVX2_31 yc_5 rfl (Nat.le_of_ble_eq_true rfl) (kX2_advance σ D (by omega)) (fun _ s5 => ?_)
            refine z_aload_n (pc := 47) dX2_readSum_47 rfl rfl ?_
            refine z_iload_n (pc := 48) dX2_readSum_48 rfl rfl ?_
            refine z_V1i (pc := 49) dX2_readSum_49 lVX2_69 yc_5 rfl (Nat.le_of_ble_eq_true rfl) (hG.2.2.2.2.2.1 l1 s5) (fun r6 s6 => ?_)
            refine z_istore_n (pc := 52) dX2_readSum_52 rfl (Nat.le_of_ble_eq_true rfl) (z_so5_2 rfl) ?_
            refine z_aload_n (pc := 53) dX2_readSum_53 rfl rfl ?_
            refine gfX2_0 (pc := 54) dX2_readSum_54 yc_5 w_2_22 rfl ?_
            refine z_sipush_20000 (pc := 57) dX2_readSum_57 ?_
            refine z_iload (pc := 60) dX2_readSum_60 rfl ?_
            refine z_iadd (pc := 62) dX2_readSum_62 ?_
            refine z_V1u (pc := 63) dX2_readSum_63 lVX2_57 yc_1 rfl (Nat.le_of_ble_eq_true rfl) (kX4_put ((20000 : Int32) + (σ.1 5 5)) s6 D (by omega)) (fun _ s7 => ?_)
            refine z_iinc (y := 1) (pc := 66) dX2_readSum_66 rfl (by decide) (Nat.le_of_ble_eq_true rfl) (z_so5_3 rfl) ?_
            refine z_goto (tgt := 8) (pc := 69) dX2_readSum_69 (by decide) ?_
            exact z_weak (lv' := [some (zR 5), some (zI l1), some (zI r6), some (zI (l3 + 1)), none]) (z_sub_ok ⟨rfl, rfl, rfl, rfl, trivial⟩) (ih l1 r6 (l3 + 1) s7)
def fX2_readSum_b (G : Nat → Int32 → z_Mem → Option (Int32 × z_Mem)) (a1 : Int32) (σ : z_Mem) : Option (Int32 × z_Mem) :=
  z_bd (G 5 a1 σ) (fun r1 s1 => fX2_readSum_8 G z_FU a1 r1 (0 : Int32) s1)
theorem kX2_readSum_b (D : Nat) (G : Nat → Int32 → z_Mem → Option (Int32 × z_Mem)) (hG : zGA_ok G D) (hD : 7 ≤ D) (a1 : Int32) (σ : z_Mem) : z_Call YC mX2_readSum (D + 1) z_i [zR 5, zI a1] σ (fX2_readSum_b G a1 σ) := by
  refine z_entry (lv := [some (zR 5), some (zI a1), none, none, none]) (by decide) rfl (Nat.le_of_ble_eq_true rfl) rfl ?_
  rw [fX2_readSum_b]
  refine z_aload_n (pc := 0) dX2_readSum_0 rfl rfl ?_
  refine z_iload_n (pc := 1) dX2_readSum_1 rfl rfl ?_
  refine z_V1i (pc := 2) dX2_readSum_2 lVX2_69 yc_5 rfl (Nat.le_of_ble_eq_true rfl) (hG.2.2.2.2.2.1 a1 σ) (fun r1 s1 => ?_)
  refine z_istore_n (pc := 5) dX2_readSum_5 rfl (Nat.le_of_ble_eq_true rfl) (z_so5_2 rfl) ?_
  refine z_iconst_0 (pc := 6) dX2_readSum_6 ?_
  refine z_istore_n (pc := 7) dX2_readSum_7 rfl (Nat.le_of_ble_eq_true rfl) (z_so5_3 rfl) ?_
  exact kX2_readSum_8 D G hG  hD z_FU a1 r1 (0 : Int32) s1
def fX2_readTerm_8 (G : Nat → Int32 → z_Mem → Option (Int32 × z_Mem))  : Nat → Int32 → Int32 → Int32 → z_Mem → Option (Int32 × z_Mem)
  | 0, _, _, _, _ => none
  | q + 1, l1, l2, l3, σ => if (160 : Int32) ≤ l3 then (z_gd (z_bool l2) (some (l2, σ))) else (if l2 = 0 then (z_gd (z_bool l2) (some (l2, σ))) else (if σ.1 5 5 = (42 : Int32) then (z_bd (fX2_advance σ) (fun _ s2 => z_bd (G 6 l1 s2) (fun r3 s3 => z_bd (fX4_put (20042 : Int32) s3) (fun _ s4 => fX2_readTerm_8 G  q l1 r3 (l3 + 1) s4)))) else (z_gd (z_bool l2) (some (l2, σ)))))
theorem kX2_readTerm_8 (D : Nat) (G : Nat → Int32 → z_Mem → Option (Int32 × z_Mem)) (hG : zGA_ok G D)   (hD : 7 ≤ D) : ∀ (q : Nat) (l1 : Int32) (l2 : Int32) (l3 : Int32)  (σ : z_Mem), z_Go YC mX2_readTerm (D + 1) z_i 8 [some (zR 5), some (zI l1), some (zI l2), some (zI l3)] [] σ (fX2_readTerm_8 G q l1 l2 l3 σ) := by
  intro q
  induction q with
  | zero => intros; exact z_none
  | succ q ih =>
    intro l1 l2 l3 σ
    rw [fX2_readTerm_8]
    refine z_iload_n (pc := 8) dX2_readTerm_8 rfl rfl ?_
    refine z_sipush_160 (pc := 9) dX2_readTerm_9 ?_
    refine z_icmp_ge (tgt := 54) (pc := 12) dX2_readTerm_12 (by decide) (fun _ => ?_) (fun _ => ?_)
    · refine z_iload_n (pc := 54) dX2_readTerm_54 rfl rfl ?_
      exact z_guard fun hz => z_iret (pc := 55) dX2_readTerm_55 rfl (z_narB hz)
    · refine z_iload_n (pc := 15) dX2_readTerm_15 rfl rfl ?_
      refine z_if_eq (tgt := 54) (pc := 16) dX2_readTerm_16 (by decide) (fun _ => ?_) (fun _ => ?_)
      · refine z_iload_n (pc := 54) dX2_readTerm_54 rfl rfl ?_
        exact z_guard fun hz => z_iret (pc := 55) dX2_readTerm_55 rfl (z_narB hz)
      · refine z_aload_n (pc := 19) dX2_readTerm_19 rfl rfl ?_
        refine gfX2_5 (pc := 20) dX2_readTerm_20 yc_5 w_6_7 rfl ?_
        refine z_bipush_42 (pc := 23) dX2_readTerm_23 ?_
        refine z_icmp_ne (tgt := 54) (pc := 25) dX2_readTerm_25 (by decide) (fun _ => ?_) (fun _ => ?_)
        · refine z_iload_n (pc := 54) dX2_readTerm_54 rfl rfl ?_
          exact z_guard fun hz => z_iret (pc := 55) dX2_readTerm_55 rfl (z_narB hz)
        · refine z_aload_n (pc := 28) dX2_readTerm_28 rfl rfl ?_
          refine z_V0u (pc := 29) dX2_readTerm_29 lVX2_31 yc_5 rfl (Nat.le_of_ble_eq_true rfl) (kX2_advance σ D (by omega)) (fun _ s2 => ?_)
          refine z_aload_n (pc := 32) dX2_readTerm_32 rfl rfl ?_
          refine z_iload_n (pc := 33) dX2_readTerm_33 rfl rfl ?_
          refine z_V1i (pc := 34) dX2_readTerm_34 lVX2_72 yc_5 rfl (Nat.le_of_ble_eq_true rfl) (hG.2.2.2.2.2.2.1 l1 s2) (fun r3 s3 => ?_)
          refine z_istore_n (pc := 37) dX2_readTerm_37 rfl (Nat.le_of_ble_eq_true rfl) (z_so4_2 rfl) ?_
          refine z_aload_n (pc := 38) dX2_readTerm_38 rfl rfl ?_
          refine gfX2_0 (pc := 39) dX2_readTerm_39 yc_5 w_2_22 rfl ?_
          refine z_sipush_20042 (pc := 42) dX2_readTerm_42 ?_
          refine z_V1u (pc := 45) dX2_readTerm_45 lVX2_57 yc_1 rfl (Nat.le_of_ble_eq_true rfl) (kX4_put (20042 : Int32) s3 D (by omega)) (fun _ s4 => ?_)
          refine z_iinc (y := 1) (pc := 48) dX2_readTerm_48 rfl (by decide) (Nat.le_of_ble_eq_true rfl) (z_so4_3 rfl) ?_
          refine z_goto (tgt := 8) (pc := 51) dX2_readTerm_51 (by decide) ?_
          exact ih l1 r3 (l3 + 1) s4
def fX2_readTerm_b (G : Nat → Int32 → z_Mem → Option (Int32 × z_Mem)) (a1 : Int32) (σ : z_Mem) : Option (Int32 × z_Mem) :=
  z_bd (G 6 a1 σ) (fun r1 s1 => fX2_readTerm_8 G z_FU a1 r1 (0 : Int32) s1)
theorem kX2_readTerm_b (D : Nat) (G : Nat → Int32 → z_Mem → Option (Int32 × z_Mem)) (hG : zGA_ok G D) (hD : 7 ≤ D) (a1 : Int32) (σ : z_Mem) : z_Call YC mX2_readTerm (D + 1) z_i [zR 5, zI a1] σ (fX2_readTerm_b G a1 σ) := by
  refine z_entry (lv := [some (zR 5), some (zI a1), none, none]) (by decide) rfl (Nat.le_of_ble_eq_true rfl) rfl ?_
  rw [fX2_readTerm_b]
  refine z_aload_n (pc := 0) dX2_readTerm_0 rfl rfl ?_
  refine z_iload_n (pc := 1) dX2_readTerm_1 rfl rfl ?_
  refine z_V1i (pc := 2) dX2_readTerm_2 lVX2_72 yc_5 rfl (Nat.le_of_ble_eq_true rfl) (hG.2.2.2.2.2.2.1 a1 σ) (fun r1 s1 => ?_)
  refine z_istore_n (pc := 5) dX2_readTerm_5 rfl (Nat.le_of_ble_eq_true rfl) (z_so4_2 rfl) ?_
  refine z_iconst_0 (pc := 6) dX2_readTerm_6 ?_
  refine z_istore_n (pc := 7) dX2_readTerm_7 rfl (Nat.le_of_ble_eq_true rfl) (z_so4_3 rfl) ?_
  exact kX2_readTerm_8 D G hG  hD z_FU a1 r1 (0 : Int32) s1
def fX2_readOne_j70 (G : Nat → Int32 → z_Mem → Option (Int32 × z_Mem))  (l1 : Int32) (σ : z_Mem) : Option (Int32 × z_Mem) :=
  if (5 : Int32) ≤ l1 then (some ((0 : Int32), σ)) else (if σ.1 5 5 = (45 : Int32) then (if σ.1 5 5 = (45 : Int32) then (z_bd (G 7 (l1 + (1 : Int32)) σ) (fun r2 s2 => z_gd (z_bool r2) (some (r2, s2)))) else (z_bd (G 8 (l1 + (1 : Int32)) σ) (fun r1 s1 => z_gd (z_bool r1) (some (r1, s1))))) else (if σ.1 5 5 = (40 : Int32) then (if σ.1 5 5 = (45 : Int32) then (z_bd (G 7 (l1 + (1 : Int32)) σ) (fun r4 s4 => z_gd (z_bool r4) (some (r4, s4)))) else (z_bd (G 8 (l1 + (1 : Int32)) σ) (fun r3 s3 => z_gd (z_bool r3) (some (r3, s3))))) else (some ((0 : Int32), σ))))
theorem kX2_readOne_j70 (D : Nat) (G : Nat → Int32 → z_Mem → Option (Int32 × z_Mem)) (hG : zGA_ok G D)   (hD : 7 ≤ D) (l1 : Int32)  (σ : z_Mem) : z_Go YC mX2_readOne (D + 1) z_i 70 [some (zR 5), some (zI l1)] [] σ (fX2_readOne_j70 G l1 σ) := by
  rw [fX2_readOne_j70]
  refine z_iload_n (pc := 70) dX2_readOne_70 rfl rfl ?_
  refine z_iconst_5 (pc := 71) dX2_readOne_71 ?_
  refine z_icmp_ge (tgt := 93) (pc := 72) dX2_readOne_72 (by decide) (fun _ => ?_) (fun _ => ?_)
  · refine z_iconst_0 (pc := 93) dX2_readOne_93 ?_
    exact z_iret (pc := 94) dX2_readOne_94 rfl rfl
  · refine z_aload_n (pc := 75) dX2_readOne_75 rfl rfl ?_
    refine gfX2_5 (pc := 76) dX2_readOne_76 yc_5 w_6_7 rfl ?_
    refine z_bipush_45 (pc := 79) dX2_readOne_79 ?_
    refine z_icmp_eq (tgt := 95) (pc := 81) dX2_readOne_81 (by decide) (fun _ => ?_) (fun _ => ?_)
    · refine z_aload_n (pc := 95) dX2_readOne_95 rfl rfl ?_
      refine gfX2_5 (pc := 96) dX2_readOne_96 yc_5 w_6_7 rfl ?_
      refine z_bipush_45 (pc := 99) dX2_readOne_99 ?_
      refine z_icmp_ne (tgt := 114) (pc := 101) dX2_readOne_101 (by decide) (fun _ => ?_) (fun _ => ?_)
      · refine z_aload_n (pc := 114) dX2_readOne_114 rfl rfl ?_
        refine z_iload_n (pc := 115) dX2_readOne_115 rfl rfl ?_
        refine z_iconst_1 (pc := 116) dX2_readOne_116 ?_
        refine z_iadd (pc := 117) dX2_readOne_117 ?_
        refine z_V1i (pc := 118) dX2_readOne_118 lVX2_81 yc_5 rfl (Nat.le_of_ble_eq_true rfl) (hG.2.2.2.2.2.2.2.2 (l1 + (1 : Int32)) σ) (fun r1 s1 => ?_)
        exact z_guard fun hz => z_iret (pc := 121) dX2_readOne_121 rfl (z_narB hz)
      · refine z_aload_n (pc := 104) dX2_readOne_104 rfl rfl ?_
        refine z_iload_n (pc := 105) dX2_readOne_105 rfl rfl ?_
        refine z_iconst_1 (pc := 106) dX2_readOne_106 ?_
        refine z_iadd (pc := 107) dX2_readOne_107 ?_
        refine z_V1i (pc := 108) dX2_readOne_108 lVX2_78 yc_5 rfl (Nat.le_of_ble_eq_true rfl) (hG.2.2.2.2.2.2.2.1 (l1 + (1 : Int32)) σ) (fun r2 s2 => ?_)
        refine z_goto (tgt := 121) (pc := 111) dX2_readOne_111 (by decide) ?_
        exact z_guard fun hz => z_iret (pc := 121) dX2_readOne_121 rfl (z_narB hz)
    · refine z_aload_n (pc := 84) dX2_readOne_84 rfl rfl ?_
      refine gfX2_5 (pc := 85) dX2_readOne_85 yc_5 w_6_7 rfl ?_
      refine z_bipush_40 (pc := 88) dX2_readOne_88 ?_
      refine z_icmp_eq (tgt := 95) (pc := 90) dX2_readOne_90 (by decide) (fun _ => ?_) (fun _ => ?_)
      · refine z_aload_n (pc := 95) dX2_readOne_95 rfl rfl ?_
        refine gfX2_5 (pc := 96) dX2_readOne_96 yc_5 w_6_7 rfl ?_
        refine z_bipush_45 (pc := 99) dX2_readOne_99 ?_
        refine z_icmp_ne (tgt := 114) (pc := 101) dX2_readOne_101 (by decide) (fun _ => ?_) (fun _ => ?_)
        · refine z_aload_n (pc := 114) dX2_readOne_114 rfl rfl ?_
          refine z_iload_n (pc := 115) dX2_readOne_115 rfl rfl ?_
          refine z_iconst_1 (pc := 116) dX2_readOne_116 ?_
          refine z_iadd (pc := 117) dX2_readOne_117 ?_
          refine z_V1i (pc := 118) dX2_readOne_118 lVX2_81 yc_5 rfl (Nat.le_of_ble_eq_true rfl) (hG.2.2.2.2.2.2.2.2 (l1 + (1 : Int32)) σ) (fun r3 s3 => ?_)
          exact z_guard fun hz => z_iret (pc := 121) dX2_readOne_121 rfl (z_narB hz)
        · refine z_aload_n (pc := 104) dX2_readOne_104 rfl rfl ?_
          refine z_iload_n (pc := 105) dX2_readOne_105 rfl rfl ?_
          refine z_iconst_1 (pc := 106) dX2_readOne_106 ?_
          refine z_iadd (pc := 107) dX2_readOne_107 ?_
          refine z_V1i (pc := 108) dX2_readOne_108 lVX2_78 yc_5 rfl (Nat.le_of_ble_eq_true rfl) (hG.2.2.2.2.2.2.2.1 (l1 + (1 : Int32)) σ) (fun r4 s4 => ?_)
          refine z_goto (tgt := 121) (pc := 111) dX2_readOne_111 (by decide) ?_
          exact z_guard fun hz => z_iret (pc := 121) dX2_readOne_121 rfl (z_narB hz)
      · refine z_iconst_0 (pc := 93) dX2_readOne_93 ?_
        exact z_iret (pc := 94) dX2_readOne_94 rfl rfl
def fX2_readOne_b (G : Nat → Int32 → z_Mem → Option (Int32 × z_Mem)) (a1 : Int32) (σ : z_Mem) : Option (Int32 × z_Mem) :=
  if σ.1 5 5 = (2 : Int32) then (z_bd (fX4_put (σ.1 5 6) σ) (fun _ s7 => z_bd (fX2_advance s7) (fun _ s8 => some ((1 : Int32), s8)))) else (if σ.1 5 5 < (256 : Int32) then (fX2_readOne_j70 G a1 σ) else (if (262 : Int32) ≤ σ.1 5 5 then (fX2_readOne_j70 G a1 σ) else (z_bd (fX4_put (((10000 : Int32) + (σ.1 5 5)) - (256 : Int32)) σ) (fun _ s5 => z_bd (fX2_advance s5) (fun _ s6 => some ((1 : Int32), s6))))))
theorem kX2_readOne_b (D : Nat) (G : Nat → Int32 → z_Mem → Option (Int32 × z_Mem)) (hG : zGA_ok G D) (hD : 7 ≤ D) (a1 : Int32) (σ : z_Mem) : z_Call YC mX2_readOne (D + 1) z_i [zR 5, zI a1] σ (fX2_readOne_b G a1 σ) := by
  refine z_entry (lv := [some (zR 5), some (zI a1)]) (by decide) rfl (Nat.le_of_ble_eq_true rfl) rfl ?_
  rw [fX2_readOne_b]
  refine z_aload_n (pc := 0) dX2_readOne_0 rfl rfl ?_
  refine gfX2_5 (pc := 1) dX2_readOne_1 yc_5 w_6_7 rfl ?_
  refine z_iconst_2 (pc := 4) dX2_readOne_4 ?_
  refine z_icmp_ne (tgt := 25) (pc := 5) dX2_readOne_5 (by decide) (fun _ => ?_) (fun _ => ?_)
  · refine z_aload_n (pc := 25) dX2_readOne_25 rfl rfl ?_
    refine gfX2_5 (pc := 26) dX2_readOne_26 yc_5 w_6_7 rfl ?_
    refine z_sipush_256 (pc := 29) dX2_readOne_29 ?_
    refine z_icmp_lt (tgt := 70) (pc := 32) dX2_readOne_32 (by decide) (fun _ => ?_) (fun _ => ?_)
    · exact kX2_readOne_j70 D G hG  hD a1 σ
    · refine z_aload_n (pc := 35) dX2_readOne_35 rfl rfl ?_
      refine gfX2_5 (pc := 36) dX2_readOne_36 yc_5 w_6_7 rfl ?_
      refine z_sipush_262 (pc := 39) dX2_readOne_39 ?_
      refine z_icmp_ge (tgt := 70) (pc := 42) dX2_readOne_42 (by decide) (fun _ => ?_) (fun _ => ?_)
      · exact kX2_readOne_j70 D G hG  hD a1 σ
      · refine z_aload_n (pc := 45) dX2_readOne_45 rfl rfl ?_
        refine gfX2_0 (pc := 46) dX2_readOne_46 yc_5 w_2_22 rfl ?_
        refine z_sipush_10000 (pc := 49) dX2_readOne_49 ?_
        refine z_aload_n (pc := 52) dX2_readOne_52 rfl rfl ?_
        refine gfX2_5 (pc := 53) dX2_readOne_53 yc_5 w_6_7 rfl ?_
        refine z_iadd (pc := 56) dX2_readOne_56 ?_
        refine z_sipush_256 (pc := 57) dX2_readOne_57 ?_
        refine z_isub (pc := 60) dX2_readOne_60 ?_
        refine z_V1u (pc := 61) dX2_readOne_61 lVX2_57 yc_1 rfl (Nat.le_of_ble_eq_true rfl) (kX4_put (((10000 : Int32) + (σ.1 5 5)) - (256 : Int32)) σ D (by omega)) (fun _ s5 => ?_)
        refine z_aload_n (pc := 64) dX2_readOne_64 rfl rfl ?_
        refine z_V0u (pc := 65) dX2_readOne_65 lVX2_31 yc_5 rfl (Nat.le_of_ble_eq_true rfl) (kX2_advance s5 D (by omega)) (fun _ s6 => ?_)
        refine z_iconst_1 (pc := 68) dX2_readOne_68 ?_
        exact z_iret (pc := 69) dX2_readOne_69 rfl rfl
  · refine z_aload_n (pc := 8) dX2_readOne_8 rfl rfl ?_
    refine gfX2_0 (pc := 9) dX2_readOne_9 yc_5 w_2_22 rfl ?_
    refine z_aload_n (pc := 12) dX2_readOne_12 rfl rfl ?_
    refine gfX2_6 (pc := 13) dX2_readOne_13 yc_5 w_7_7 rfl ?_
    refine z_V1u (pc := 16) dX2_readOne_16 lVX2_57 yc_1 rfl (Nat.le_of_ble_eq_true rfl) (kX4_put (σ.1 5 6) σ D (by omega)) (fun _ s7 => ?_)
    refine z_aload_n (pc := 19) dX2_readOne_19 rfl rfl ?_
    refine z_V0u (pc := 20) dX2_readOne_20 lVX2_31 yc_5 rfl (Nat.le_of_ble_eq_true rfl) (kX2_advance s7 D (by omega)) (fun _ s8 => ?_)
    refine z_iconst_1 (pc := 23) dX2_readOne_23 ?_
    exact z_iret (pc := 24) dX2_readOne_24 rfl rfl
def fX2_readNegation_b (G : Nat → Int32 → z_Mem → Option (Int32 × z_Mem)) (a1 : Int32) (σ : z_Mem) : Option (Int32 × z_Mem) :=
  z_bd (fX2_advance σ) (fun _ s1 => z_bd (G 6 a1 s1) (fun r2 s2 => z_bd (fX4_put (20003 : Int32) s2) (fun _ s3 => z_gd (z_bool r2) (some (r2, s3)))))
theorem kX2_readNegation_b (D : Nat) (G : Nat → Int32 → z_Mem → Option (Int32 × z_Mem)) (hG : zGA_ok G D) (hD : 7 ≤ D) (a1 : Int32) (σ : z_Mem) : z_Call YC mX2_readNegation (D + 1) z_i [zR 5, zI a1] σ (fX2_readNegation_b G a1 σ) := by
  refine z_entry (lv := [some (zR 5), some (zI a1), none]) (by decide) rfl (Nat.le_of_ble_eq_true rfl) rfl ?_
  rw [fX2_readNegation_b]
  refine z_aload_n (pc := 0) dX2_readNegation_0 rfl rfl ?_
  refine z_V0u (pc := 1) dX2_readNegation_1 lVX2_31 yc_5 rfl (Nat.le_of_ble_eq_true rfl) (kX2_advance σ D (by omega)) (fun _ s1 => ?_)
  refine z_aload_n (pc := 4) dX2_readNegation_4 rfl rfl ?_
  refine z_iload_n (pc := 5) dX2_readNegation_5 rfl rfl ?_
  refine z_V1i (pc := 6) dX2_readNegation_6 lVX2_72 yc_5 rfl (Nat.le_of_ble_eq_true rfl) (hG.2.2.2.2.2.2.1 a1 s1) (fun r2 s2 => ?_)
  refine z_istore_n (pc := 9) dX2_readNegation_9 rfl (Nat.le_of_ble_eq_true rfl) (z_so3_2 rfl) ?_
  refine z_aload_n (pc := 10) dX2_readNegation_10 rfl rfl ?_
  refine gfX2_0 (pc := 11) dX2_readNegation_11 yc_5 w_2_22 rfl ?_
  refine z_sipush_20003 (pc := 14) dX2_readNegation_14 ?_
  refine z_V1u (pc := 17) dX2_readNegation_17 lVX2_57 yc_1 rfl (Nat.le_of_ble_eq_true rfl) (kX4_put (20003 : Int32) s2 D (by omega)) (fun _ s3 => ?_)
  refine z_iload_n (pc := 20) dX2_readNegation_20 rfl rfl ?_
  exact z_guard fun hz => z_iret (pc := 21) dX2_readNegation_21 rfl (z_narB hz)
def fX2_readBrackets_b (G : Nat → Int32 → z_Mem → Option (Int32 × z_Mem)) (a1 : Int32) (σ : z_Mem) : Option (Int32 × z_Mem) :=
  z_bd (fX2_advance σ) (fun _ s1 => z_bd (G 0 a1 s1) (fun r2 s2 => if r2 = 0 then (some ((0 : Int32), s2)) else (if s2.1 5 5 = (41 : Int32) then (z_bd (fX2_advance s2) (fun _ s3 => some ((1 : Int32), s3))) else (some ((0 : Int32), s2)))))
theorem kX2_readBrackets_b (D : Nat) (G : Nat → Int32 → z_Mem → Option (Int32 × z_Mem)) (hG : zGA_ok G D) (hD : 7 ≤ D) (a1 : Int32) (σ : z_Mem) : z_Call YC mX2_readBrackets (D + 1) z_i [zR 5, zI a1] σ (fX2_readBrackets_b G a1 σ) := by
  refine z_entry (lv := [some (zR 5), some (zI a1)]) (by decide) rfl (Nat.le_of_ble_eq_true rfl) rfl ?_
  rw [fX2_readBrackets_b]
  refine z_aload_n (pc := 0) dX2_readBrackets_0 rfl rfl ?_
  refine z_V0u (pc := 1) dX2_readBrackets_1 lVX2_31 yc_5 rfl (Nat.le_of_ble_eq_true rfl) (kX2_advance σ D (by omega)) (fun _ s1 => ?_)
  refine z_aload_n (pc := 4) dX2_readBrackets_4 rfl rfl ?_
  refine z_iload_n (pc := 5) dX2_readBrackets_5 rfl rfl ?_
  refine z_V1i (pc := 6) dX2_readBrackets_6 lVX2_47 yc_5 rfl (Nat.le_of_ble_eq_true rfl) (hG.1 a1 s1) (fun r2 s2 => ?_)
  refine z_if_eq (tgt := 21) (pc := 9) dX2_readBrackets_9 (by decide) (fun _ => ?_) (fun _ => ?_)
  · refine z_iconst_0 (pc := 21) dX2_readBrackets_21 ?_
    exact z_iret (pc := 22) dX2_readBrackets_22 rfl rfl
  · refine z_aload_n (pc := 12) dX2_readBrackets_12 rfl rfl ?_
    refine gfX2_5 (pc := 13) dX2_readBrackets_13 yc_5 w_6_7 rfl ?_
    refine z_bipush_41 (pc := 16) dX2_readBrackets_16 ?_
    refine z_icmp_eq (tgt := 23) (pc := 18) dX2_readBrackets_18 (by decide) (fun _ => ?_) (fun _ => ?_)
    · refine z_aload_n (pc := 23) dX2_readBrackets_23 rfl rfl ?_
      refine z_V0u (pc := 24) dX2_readBrackets_24 lVX2_31 yc_5 rfl (Nat.le_of_ble_eq_true rfl) (kX2_advance s2 D (by omega)) (fun _ s3 => ?_)
      refine z_iconst_1 (pc := 27) dX2_readBrackets_27 ?_
      exact z_iret (pc := 28) dX2_readBrackets_28 rfl rfl
    · refine z_iconst_0 (pc := 21) dX2_readBrackets_21 ?_
      exact z_iret (pc := 22) dX2_readBrackets_22 rfl rfl
def zGA : Nat → Nat → Int32 → z_Mem → Option (Int32 × z_Mem)
  | 0, _, _, _ => none
  | n + 1, t, a1, σ => if t = 0 then fX2_readEither_b (zGA n) a1 σ else if t = 1 then fX2_readBoth_b (zGA n) a1 σ else if t = 2 then fX2_readDenial_b (zGA n) a1 σ else if t = 3 then fX2_readComparison_b (zGA n) a1 σ else if t = 4 then fX2_readSum_b (zGA n) a1 σ else if t = 5 then fX2_readTerm_b (zGA n) a1 σ else if t = 6 then fX2_readOne_b (zGA n) a1 σ else if t = 7 then fX2_readNegation_b (zGA n) a1 σ else fX2_readBrackets_b (zGA n) a1 σ
theorem zGA_all : ∀ (n D : Nat), n + 7 ≤ D → zGA_ok (zGA n) D
  | 0, D, _ => ⟨fun _ _ => z_callNone, fun _ _ => z_callNone, fun _ _ => z_callNone, fun _ _ => z_callNone, fun _ _ => z_callNone, fun _ _ => z_callNone, fun _ _ => z_callNone, fun _ _ => z_callNone, fun _ _ => z_callNone⟩
  | n + 1, D0, hD => by
    obtain ⟨D, rfl⟩ : ∃ E, D0 = E + 1 := ⟨D0 - 1, by omega⟩
    have ih := zGA_all n
    exact ⟨fun a1 σ => kX2_readEither_b D (zGA n) (ih D (by omega)) (by omega) a1 σ, fun a1 σ => kX2_readBoth_b D (zGA n) (ih D (by omega)) (by omega) a1 σ, fun a1 σ => kX2_readDenial_b D (zGA n) (ih D (by omega)) (by omega) a1 σ, fun a1 σ => kX2_readComparison_b D (zGA n) (ih D (by omega)) (by omega) a1 σ, fun a1 σ => kX2_readSum_b D (zGA n) (ih D (by omega)) (by omega) a1 σ, fun a1 σ => kX2_readTerm_b D (zGA n) (ih D (by omega)) (by omega) a1 σ, fun a1 σ => kX2_readOne_b D (zGA n) (ih D (by omega)) (by omega) a1 σ, fun a1 σ => kX2_readNegation_b D (zGA n) (ih D (by omega)) (by omega) a1 σ, fun a1 σ => kX2_readBrackets_b D (zGA n) (ih D (by omega)) (by omega) a1 σ⟩
def fX2_readEither (a1 : Int32) (σ : z_Mem) : Option (Int32 × z_Mem) := zGA 64 0 a1 σ
theorem kX2_readEither (a1 : Int32) (σ : z_Mem) (D : Nat) (hD : 71 ≤ D) : z_Call YC mX2_readEither D z_i [zR 5, zI a1] σ (fX2_readEither a1 σ) := (zGA_all 64 D (by omega)).1 a1 σ
def fX2_readBoth (a1 : Int32) (σ : z_Mem) : Option (Int32 × z_Mem) := zGA 64 1 a1 σ
theorem kX2_readBoth (a1 : Int32) (σ : z_Mem) (D : Nat) (hD : 71 ≤ D) : z_Call YC mX2_readBoth D z_i [zR 5, zI a1] σ (fX2_readBoth a1 σ) := (zGA_all 64 D (by omega)).2.1 a1 σ
def fX2_readDenial (a1 : Int32) (σ : z_Mem) : Option (Int32 × z_Mem) := zGA 64 2 a1 σ
theorem kX2_readDenial (a1 : Int32) (σ : z_Mem) (D : Nat) (hD : 71 ≤ D) : z_Call YC mX2_readDenial D z_i [zR 5, zI a1] σ (fX2_readDenial a1 σ) := (zGA_all 64 D (by omega)).2.2.1 a1 σ
def fX2_readComparison (a1 : Int32) (σ : z_Mem) : Option (Int32 × z_Mem) := zGA 64 3 a1 σ
theorem kX2_readComparison (a1 : Int32) (σ : z_Mem) (D : Nat) (hD : 71 ≤ D) : z_Call YC mX2_readComparison D z_i [zR 5, zI a1] σ (fX2_readComparison a1 σ) := (zGA_all 64 D (by omega)).2.2.2.1 a1 σ
def fX2_readSum (a1 : Int32) (σ : z_Mem) : Option (Int32 × z_Mem) := zGA 64 4 a1 σ
theorem kX2_readSum (a1 : Int32) (σ : z_Mem) (D : Nat) (hD : 71 ≤ D) : z_Call YC mX2_readSum D z_i [zR 5, zI a1] σ (fX2_readSum a1 σ) := (zGA_all 64 D (by omega)).2.2.2.2.1 a1 σ
def fX2_readTerm (a1 : Int32) (σ : z_Mem) : Option (Int32 × z_Mem) := zGA 64 5 a1 σ
theorem kX2_readTerm (a1 : Int32) (σ : z_Mem) (D : Nat) (hD : 71 ≤ D) : z_Call YC mX2_readTerm D z_i [zR 5, zI a1] σ (fX2_readTerm a1 σ) := (zGA_all 64 D (by omega)).2.2.2.2.2.1 a1 σ
def fX2_readOne (a1 : Int32) (σ : z_Mem) : Option (Int32 × z_Mem) := zGA 64 6 a1 σ
theorem kX2_readOne (a1 : Int32) (σ : z_Mem) (D : Nat) (hD : 71 ≤ D) : z_Call YC mX2_readOne D z_i [zR 5, zI a1] σ (fX2_readOne a1 σ) := (zGA_all 64 D (by omega)).2.2.2.2.2.2.1 a1 σ
def fX2_readNegation (a1 : Int32) (σ : z_Mem) : Option (Int32 × z_Mem) := zGA 64 7 a1 σ
theorem kX2_readNegation (a1 : Int32) (σ : z_Mem) (D : Nat) (hD : 71 ≤ D) : z_Call YC mX2_readNegation D z_i [zR 5, zI a1] σ (fX2_readNegation a1 σ) := (zGA_all 64 D (by omega)).2.2.2.2.2.2.2.1 a1 σ
def fX2_readBrackets (a1 : Int32) (σ : z_Mem) : Option (Int32 × z_Mem) := zGA 64 8 a1 σ
theorem kX2_readBrackets (a1 : Int32) (σ : z_Mem) (D : Nat) (hD : 71 ≤ D) : z_Call YC mX2_readBrackets D z_i [zR 5, zI a1] σ (fX2_readBrackets a1 σ) := (zGA_all 64 D (by omega)).2.2.2.2.2.2.2.2 a1 σ
def fX2_readPart  (a1 : Int32) (σ : z_Mem) : Option (Int32 × z_Mem) :=
  if σ.1 5 5 = (262 : Int32) + a1 then (z_bd (fX2_advance σ) (fun _ s1 => z_bd (fX2_readEither (0 : Int32) s1) (fun r2 s2 => if r2 = 0 then (some ((0 : Int32), s2)) else (if s2.1 5 5 = (59 : Int32) then (z_bd (fX2_advance s2) (fun _ s3 => z_bd (fX4_endPart a1 s3) (fun _ s4 => some ((1 : Int32), s4)))) else (some ((0 : Int32), s2)))))) else (some ((0 : Int32), σ))
theorem kX2_readPart   (a1 : Int32) (σ : z_Mem) (D : Nat) (hD : 72 ≤ D) : z_Call YC mX2_readPart D z_i [zR 5, zI a1] σ (fX2_readPart a1 σ) := by
  obtain ⟨D, rfl⟩ : ∃ E, D = E + 1 := ⟨D - 1, by omega⟩
  replace hD : 71 ≤ D := by omega
  refine z_entry (lv := [some (zR 5), some (zI a1)]) (by decide) rfl (Nat.le_of_ble_eq_true rfl) rfl ?_
  rw [fX2_readPart]
  refine z_aload_n (pc := 0) dX2_readPart_0 rfl rfl ?_
  refine gfX2_5 (pc := 1) dX2_readPart_1 yc_5 w_6_7 rfl ?_
  refine z_sipush_262 (pc := 4) dX2_readPart_4 ?_
  refine z_iload_n (pc := 7) dX2_readPart_7 rfl rfl ?_
  refine z_iadd (pc := 8) dX2_readPart_8 ?_
  refine z_icmp_eq (tgt := 14) (pc := 9) dX2_readPart_9 (by decide) (fun _ => ?_) (fun _ => ?_)
  · refine z_aload_n (pc := 14) dX2_readPart_14 rfl rfl ?_
    refine z_V0u (pc := 15) dX2_readPart_15 lVX2_31 yc_5 rfl (Nat.le_of_ble_eq_true rfl) (kX2_advance σ D (by omega)) (fun _ s1 => ?_)
    refine z_aload_n (pc := 18) dX2_readPart_18 rfl rfl ?_
    refine z_iconst_0 (pc := 19) dX2_readPart_19 ?_
    refine z_V1i (pc := 20) dX2_readPart_20 lVX2_47 yc_5 rfl (Nat.le_of_ble_eq_true rfl) (kX2_readEither (0 : Int32) s1 D (by omega)) (fun r2 s2 => ?_)
    refine z_if_eq (tgt := 35) (pc := 23) dX2_readPart_23 (by decide) (fun _ => ?_) (fun _ => ?_)
    · refine z_iconst_0 (pc := 35) dX2_readPart_35 ?_
      exact z_iret (pc := 36) dX2_readPart_36 rfl rfl
    · refine z_aload_n (pc := 26) dX2_readPart_26 rfl rfl ?_
      refine gfX2_5 (pc := 27) dX2_readPart_27 yc_5 w_6_7 rfl ?_
      refine z_bipush_59 (pc := 30) dX2_readPart_30 ?_
      refine z_icmp_eq (tgt := 37) (pc := 32) dX2_readPart_32 (by decide) (fun _ => ?_) (fun _ => ?_)
      · refine z_aload_n (pc := 37) dX2_readPart_37 rfl rfl ?_
        refine z_V0u (pc := 38) dX2_readPart_38 lVX2_31 yc_5 rfl (Nat.le_of_ble_eq_true rfl) (kX2_advance s2 D (by omega)) (fun _ s3 => ?_)
        refine z_aload_n (pc := 41) dX2_readPart_41 rfl rfl ?_
        refine gfX2_0 (pc := 42) dX2_readPart_42 yc_5 w_2_22 rfl ?_
        refine z_iload_n (pc := 45) dX2_readPart_45 rfl rfl ?_
        refine z_V1u (pc := 46) dX2_readPart_46 lVX2_50 yc_1 rfl (Nat.le_of_ble_eq_true rfl) (kX4_endPart a1 s3 D (by omega)) (fun _ s4 => ?_)
        refine z_iconst_1 (pc := 49) dX2_readPart_49 ?_
        exact z_iret (pc := 50) dX2_readPart_50 rfl rfl
      · refine z_iconst_0 (pc := 35) dX2_readPart_35 ?_
        exact z_iret (pc := 36) dX2_readPart_36 rfl rfl
  · refine z_iconst_0 (pc := 12) dX2_readPart_12 ?_
    exact z_iret (pc := 13) dX2_readPart_13 rfl rfl
def fX2_read_j41  (l1 : Int32) (σ : z_Mem) : Option (Int32 × z_Mem) :=
  if l1 = 0 then (z_st (z_pt σ 5 2 (0 : Int32)) (fun s4 => some (s4.1 5 4, s4))) else (if σ.1 5 5 = 0 then (z_st (z_pt σ 1 3 ((σ.1 1 3) + (1 : Int32))) (fun s6 => z_st (z_pt s6 5 2 (0 : Int32)) (fun s7 => some ((-1 : Int32), s7)))) else (z_st (z_pt σ 5 2 (0 : Int32)) (fun s5 => some (s5.1 5 4, s5))))
theorem kX2_read_j41 (D : Nat)   (hD : 72 ≤ D) (l1 : Int32)  (σ : z_Mem) : z_Go YC mX2_read (D + 1) z_i 41 [some (zR 5), some (zI l1), none] [] σ (fX2_read_j41 l1 σ) := by
  rw [fX2_read_j41]
  refine z_iload_n (pc := 41) dX2_read_41 rfl rfl ?_
  refine z_if_eq (tgt := 56) (pc := 42) dX2_read_42 (by decide) (fun _ => ?_) (fun _ => ?_)
  · refine z_iconst_0 (pc := 56) dX2_read_56 ?_
    refine z_istore_n (pc := 57) dX2_read_57 rfl (Nat.le_of_ble_eq_true rfl) (z_so3_1 rfl) ?_
    refine z_iload_n (pc := 58) dX2_read_58 rfl rfl ?_
    refine z_if_eq_T (tgt := 75) (pc := 59) dX2_read_59 (by decide) (by decide) ?_
    refine z_aload_n (pc := 75) dX2_read_75 rfl rfl ?_
    refine z_iconst_0 (pc := 76) dX2_read_76 ?_
    refine pfX2_2 (pc := 77) dX2_read_77 yc_5 w_6_1 rfl ?_
    refine z_let (fun s4 => ?_)
    refine z_iload_n (pc := 80) dX2_read_80 rfl rfl ?_
    refine z_if_eq_T (tgt := 88) (pc := 81) dX2_read_81 (by decide) (by decide) ?_
    refine z_aload_n (pc := 88) dX2_read_88 rfl rfl ?_
    refine gfX2_4 (pc := 89) dX2_read_89 yc_5 w_6_9 rfl ?_
    exact z_iret (pc := 92) dX2_read_92 rfl rfl
  · refine z_aload_n (pc := 45) dX2_read_45 rfl rfl ?_
    refine gfX2_5 (pc := 46) dX2_read_46 yc_5 w_6_7 rfl ?_
    refine z_if_ne (tgt := 56) (pc := 49) dX2_read_49 (by decide) (fun _ => ?_) (fun _ => ?_)
    · refine z_iconst_0 (pc := 56) dX2_read_56 ?_
      refine z_istore_n (pc := 57) dX2_read_57 rfl (Nat.le_of_ble_eq_true rfl) (z_so3_1 rfl) ?_
      refine z_iload_n (pc := 58) dX2_read_58 rfl rfl ?_
      refine z_if_eq_T (tgt := 75) (pc := 59) dX2_read_59 (by decide) (by decide) ?_
      refine z_aload_n (pc := 75) dX2_read_75 rfl rfl ?_
      refine z_iconst_0 (pc := 76) dX2_read_76 ?_
      refine pfX2_2 (pc := 77) dX2_read_77 yc_5 w_6_1 rfl ?_
      refine z_let (fun s5 => ?_)
      refine z_iload_n (pc := 80) dX2_read_80 rfl rfl ?_
      refine z_if_eq_T (tgt := 88) (pc := 81) dX2_read_81 (by decide) (by decide) ?_
      refine z_aload_n (pc := 88) dX2_read_88 rfl rfl ?_
      refine gfX2_4 (pc := 89) dX2_read_89 yc_5 w_6_9 rfl ?_
      exact z_iret (pc := 92) dX2_read_92 rfl rfl
    · refine z_iconst_1 (pc := 52) dX2_read_52 ?_
      refine z_goto (tgt := 57) (pc := 53) dX2_read_53 (by decide) ?_
      refine z_istore_n (pc := 57) dX2_read_57 rfl (Nat.le_of_ble_eq_true rfl) (z_so3_1 rfl) ?_
      refine z_iload_n (pc := 58) dX2_read_58 rfl rfl ?_
      refine z_if_eq_N (tgt := 75) (pc := 59) dX2_read_59 (by decide) (by decide) ?_
      refine z_aload_n (pc := 62) dX2_read_62 rfl rfl ?_
      refine gfX2_0 (pc := 63) dX2_read_63 yc_5 w_2_22 rfl ?_
      refine z_dup (pc := 66) dX2_read_66 rfl ?_
      refine gfX4_3 (pc := 67) dX2_read_67 yc_1 w_6_8 rfl ?_
      refine z_iconst_1 (pc := 70) dX2_read_70 ?_
      refine z_iadd (pc := 71) dX2_read_71 ?_
      refine pfX4_3 (pc := 72) dX2_read_72 yc_1 w_6_8 rfl ?_
      refine z_let (fun s6 => ?_)
      refine z_aload_n (pc := 75) dX2_read_75 rfl rfl ?_
      refine z_iconst_0 (pc := 76) dX2_read_76 ?_
      refine pfX2_2 (pc := 77) dX2_read_77 yc_5 w_6_1 rfl ?_
      refine z_let (fun s7 => ?_)
      refine z_iload_n (pc := 80) dX2_read_80 rfl rfl ?_
      refine z_if_eq_N (tgt := 88) (pc := 81) dX2_read_81 (by decide) (by decide) ?_
      refine z_iconst_m1 (pc := 84) dX2_read_84 ?_
      refine z_goto (tgt := 92) (pc := 85) dX2_read_85 (by decide) ?_
      exact z_iret (pc := 92) dX2_read_92 rfl rfl
def fX2_read_20  : Nat → Int32 → Int32 → z_Mem → Option (Int32 × z_Mem)
  | 0, _, _, _ => none
  | q + 1, l1, l2, σ => if (3 : Int32) ≤ l2 then (fX2_read_j41 l1 σ) else (if l1 = 0 then (fX2_read_j41 l1 σ) else (z_bd (fX2_readPart l2 σ) (fun r8 s8 => fX2_read_20  q r8 (l2 + 1) s8)))
theorem kX2_read_20 (D : Nat)   (hD : 72 ≤ D) : ∀ (q : Nat) (l1 : Int32) (l2 : Int32)  (σ : z_Mem), z_Go YC mX2_read (D + 1) z_i 20 [some (zR 5), some (zI l1), some (zI l2)] [] σ (fX2_read_20 q l1 l2 σ) := by
  intro q
  induction q with
  | zero => intros; exact z_none
  | succ q ih =>
    intro l1 l2 σ
    rw [fX2_read_20]
    refine z_iload_n (pc := 20) dX2_read_20 rfl rfl ?_
    refine z_iconst_3 (pc := 21) dX2_read_21 ?_
    refine z_icmp_ge (tgt := 41) (pc := 22) dX2_read_22 (by decide) (fun _ => ?_) (fun _ => ?_)
    · exact z_weak (lv' := [some (zR 5), some (zI l1), none]) (z_sub_ok ⟨rfl, rfl, trivial⟩) (kX2_read_j41 D  hD l1 σ)
    · refine z_iload_n (pc := 25) dX2_read_25 rfl rfl ?_
      refine z_if_eq (tgt := 41) (pc := 26) dX2_read_26 (by decide) (fun _ => ?_) (fun _ => ?_)
      · exact z_weak (lv' := [some (zR 5), some (zI l1), none]) (z_sub_ok ⟨rfl, rfl, trivial⟩) (kX2_read_j41 D  hD l1 σ)
      · refine z_aload_n (pc := 29) dX2_read_29 rfl rfl ?_
        refine z_iload_n (pc := 30) dX2_read_30 rfl rfl ?_
        refine z_V1i (pc := 31) dX2_read_31 lVX2_34 yc_5 rfl (Nat.le_of_ble_eq_true rfl) (kX2_readPart l2 σ D (by omega)) (fun r8 s8 => ?_)
        refine z_istore_n (pc := 34) dX2_read_34 rfl (Nat.le_of_ble_eq_true rfl) (z_so3_1 rfl) ?_
        refine z_iinc (y := 1) (pc := 35) dX2_read_35 rfl (by decide) (Nat.le_of_ble_eq_true rfl) (z_so3_2 rfl) ?_
        refine z_goto (tgt := 20) (pc := 38) dX2_read_38 (by decide) ?_
        exact ih r8 (l2 + 1) s8
def fX2_read   (σ : z_Mem) : Option (Int32 × z_Mem) :=
  z_st (z_pt σ 5 3 (0 : Int32)) (fun s1 => z_bd (fX4_begin s1) (fun _ s2 => z_bd (fX2_advance s2) (fun _ s3 => fX2_read_20 z_FU (1 : Int32) (0 : Int32) s3)))
theorem kX2_read    (σ : z_Mem) (D : Nat) (hD : 73 ≤ D) : z_Call YC mX2_read D z_i [zR 5] σ (fX2_read σ) := by
  obtain ⟨D, rfl⟩ : ∃ E, D = E + 1 := ⟨D - 1, by omega⟩
  replace hD : 72 ≤ D := by omega
  refine z_entry (lv := [some (zR 5), none, none]) (by decide) rfl (Nat.le_of_ble_eq_true rfl) rfl ?_
  rw [fX2_read]
  refine z_aload_n (pc := 0) dX2_read_0 rfl rfl ?_
  refine z_iconst_0 (pc := 1) dX2_read_1 ?_
  refine pfX2_3 (pc := 2) dX2_read_2 yc_5 w_6_6 rfl ?_
  refine z_let (fun s1 => ?_)
  refine z_aload_n (pc := 5) dX2_read_5 rfl rfl ?_
  refine gfX2_0 (pc := 6) dX2_read_6 yc_5 w_2_22 rfl ?_
  refine z_V0u (pc := 9) dX2_read_9 lVX2_26 yc_1 rfl (Nat.le_of_ble_eq_true rfl) (kX4_begin s1 D (by omega)) (fun _ s2 => ?_)
  refine z_aload_n (pc := 12) dX2_read_12 rfl rfl ?_
  refine z_V0u (pc := 13) dX2_read_13 lVX2_31 yc_5 rfl (Nat.le_of_ble_eq_true rfl) (kX2_advance s2 D (by omega)) (fun _ s3 => ?_)
  refine z_iconst_1 (pc := 16) dX2_read_16 ?_
  refine z_istore_n (pc := 17) dX2_read_17 rfl (Nat.le_of_ble_eq_true rfl) (z_so3_1 rfl) ?_
  refine z_iconst_0 (pc := 18) dX2_read_18 ?_
  refine z_istore_n (pc := 19) dX2_read_19 rfl (Nat.le_of_ble_eq_true rfl) (z_so3_2 rfl) ?_
  exact kX2_read_20 D  hD z_FU (1 : Int32) (0 : Int32) s3
