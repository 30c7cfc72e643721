def zGM_ok (G : Nat → z_Mem → Option (Int32 × z_Mem)) (D : Nat) : Prop := (∀ (σ : z_Mem), z_Call YM mX6_atom D z_i [zR 0] σ (G 0  σ)) ∧ (∀ (σ : z_Mem), z_Call YM mX6_term D z_i [zR 0] σ (G 1  σ)) ∧ (∀ (σ : z_Mem), z_Call YM mX6_added D z_i [zR 0] σ (G 2  σ)) ∧ (∀ (σ : z_Mem), z_Call YM mX6_not D z_i [zR 0] σ (G 3  σ)) ∧ (∀ (σ : z_Mem), z_Call YM mX6_both D z_i [zR 0] σ (G 4  σ)) ∧ (∀ (σ : z_Mem), z_Call YM mX6_either D z_i [zR 0] σ (G 5  σ))
def fX6_atom_j123 (G : Nat → z_Mem → Option (Int32 × z_Mem))  (l1 : Int32) (σ : z_Mem) : Option (Int32 × z_Mem) :=
  if σ.1 0 26 = 0 then (if σ.1 0 22 = (1 : Int32) then (z_bd (fX6_name σ) (fun r5 s5 => if s5.1 0 26 = 0 then (z_bd (fX6_next s5) (fun _ s6 => some (r5, s6))) else (some (r5, s5)))) else (z_bd (fX6_fail σ) (fun _ s4 => some (l1, s4)))) else (z_bd (fX6_fail σ) (fun _ s3 => some (l1, s3)))
theorem kX6_atom_j123 (D : Nat) (G : Nat → z_Mem → Option (Int32 × z_Mem)) (hG : zGM_ok G D)   (hD : 4 ≤ D) (l1 : Int32)  (σ : z_Mem) : z_Go YM mX6_atom (D + 1) z_i 123 [some (zR 0), some (zI l1)] [] σ (fX6_atom_j123 G l1 σ) := by
  rw [fX6_atom_j123]
  refine z_aload_n (pc := 123) dX6_atom_123 rfl rfl ?_
  refine gfX6_26 (pc := 124) dX6_atom_124 ym_0 w_14_15 rfl ?_
  refine z_if_ne (tgt := 157) (pc := 127) dX6_atom_127 (by decide) (fun _ => ?_) (fun _ => ?_)
  · refine z_aload_n (pc := 157) dX6_atom_157 rfl rfl ?_
    refine z_V0u (pc := 158) dX6_atom_158 lVX6_178 ym_0 rfl (Nat.le_of_ble_eq_true rfl) (kX6_fail σ D (by omega)) (fun _ s3 => ?_)
    refine z_iload_n (pc := 161) dX6_atom_161 rfl rfl ?_
    exact z_iret (pc := 162) dX6_atom_162 rfl rfl
  · refine z_aload_n (pc := 130) dX6_atom_130 rfl rfl ?_
    refine gfX6_22 (pc := 131) dX6_atom_131 ym_0 w_14_16 rfl ?_
    refine z_iconst_1 (pc := 134) dX6_atom_134 ?_
    refine z_icmp_ne (tgt := 157) (pc := 135) dX6_atom_135 (by decide) (fun _ => ?_) (fun _ => ?_)
    · refine z_aload_n (pc := 157) dX6_atom_157 rfl rfl ?_
      refine z_V0u (pc := 158) dX6_atom_158 lVX6_178 ym_0 rfl (Nat.le_of_ble_eq_true rfl) (kX6_fail σ D (by omega)) (fun _ s4 => ?_)
      refine z_iload_n (pc := 161) dX6_atom_161 rfl rfl ?_
      exact z_iret (pc := 162) dX6_atom_162 rfl rfl
    · refine z_aload_n (pc := 138) dX6_atom_138 rfl rfl ?_
      refine z_V0i (pc := 139) dX6_atom_139 lVX6_220 ym_0 rfl (Nat.le_of_ble_eq_true rfl) (kX6_name σ D (by omega)) (fun r5 s5 => ?_)
      refine z_istore_n (pc := 142) dX6_atom_142 rfl (Nat.le_of_ble_eq_true rfl) (z_so2_1 rfl) ?_
      refine z_aload_n (pc := 143) dX6_atom_143 rfl rfl ?_
      refine gfX6_26 (pc := 144) dX6_atom_144 ym_0 w_14_15 rfl ?_
      refine z_if_ne (tgt := 161) (pc := 147) dX6_atom_147 (by decide) (fun _ => ?_) (fun _ => ?_)
      · refine z_iload_n (pc := 161) dX6_atom_161 rfl rfl ?_
        exact z_iret (pc := 162) dX6_atom_162 rfl rfl
      · refine z_aload_n (pc := 150) dX6_atom_150 rfl rfl ?_
        refine z_V0u (pc := 151) dX6_atom_151 lVX6_181 ym_0 rfl (Nat.le_of_ble_eq_true rfl) (kX6_next s5 D (by omega)) (fun _ s6 => ?_)
        refine z_goto (tgt := 161) (pc := 154) dX6_atom_154 (by decide) ?_
        refine z_iload_n (pc := 161) dX6_atom_161 rfl rfl ?_
        exact z_iret (pc := 162) dX6_atom_162 rfl rfl
def fX6_atom_b (G : Nat → z_Mem → Option (Int32 × z_Mem))  (σ : z_Mem) : Option (Int32 × z_Mem) :=
  z_bd (fX6_isSign (45 : Int32) σ) (fun r1 s1 => if r1 = 0 then (z_bd (fX6_isSign (40 : Int32) s1) (fun r2 s2 => if r2 = 0 then (if s2.1 0 26 = 0 then (if s2.1 0 22 = (2 : Int32) then (z_bd (fX6_next s2) (fun _ s7 => some ((s2.2 0 24).toInt32, s7))) else (fX6_atom_j123 G (0 : Int32) s2)) else (fX6_atom_j123 G (0 : Int32) s2)) else (z_bd (fX6_textOpens s2) (fun r8 s8 => if r8 = 0 then (some ((0 : Int32), s8)) else (z_bd (G 5 s8) (fun r9 s9 => z_bd (fX6_isSign (41 : Int32) s9) (fun r10 s10 => if r10 = 0 then (z_bd (fX6_fail s10) (fun _ s13 => z_st (z_pt s13 0 25 ((s13.1 0 25) - (1 : Int32))) (fun s14 => if s14.1 0 26 = 0 then (z_bd (fX6_next s14) (fun _ s15 => some (r9, s15))) else (some (r9, s14))))) else (z_st (z_pt s10 0 25 ((s10.1 0 25) - (1 : Int32))) (fun s11 => if s11.1 0 26 = 0 then (z_bd (fX6_next s11) (fun _ s12 => some (r9, s12))) else (some (r9, s11))))))))))) else (z_bd (fX6_textOpens s1) (fun r16 s16 => if r16 = 0 then (some ((0 : Int32), s16)) else (z_bd (G 0 s16) (fun r17 s17 => z_st (z_pt s17 0 25 ((s17.1 0 25) - (1 : Int32))) (fun s18 => some (-r17, s18)))))))
theorem kX6_atom_b (D : Nat) (G : Nat → z_Mem → Option (Int32 × z_Mem)) (hG : zGM_ok G D) (hD : 4 ≤ D)  (σ : z_Mem) : z_Call YM mX6_atom (D + 1) z_i [zR 0] σ (fX6_atom_b G  σ) := by
  refine z_entry (lv := [some (zR 0), none]) (by decide) rfl (Nat.le_of_ble_eq_true rfl) rfl ?_
  rw [fX6_atom_b]
  refine z_iconst_0 (pc := 0) dX6_atom_0 ?_
  refine z_istore_n (pc := 1) dX6_atom_1 rfl (Nat.le_of_ble_eq_true rfl) (z_so2_1 rfl) ?_
  refine z_aload_n (pc := 2) dX6_atom_2 rfl rfl ?_
  refine z_bipush_45 (pc := 3) dX6_atom_3 ?_
  refine z_V1i (pc := 5) dX6_atom_5 lVX6_206 ym_0 rfl (Nat.le_of_ble_eq_true rfl) (kX6_isSign (45 : Int32) σ D (by omega)) (fun r1 s1 => ?_)
  refine z_if_eq (tgt := 37) (pc := 8) dX6_atom_8 (by decide) (fun _ => ?_) (fun _ => ?_)
  · refine z_aload_n (pc := 37) dX6_atom_37 rfl rfl ?_
    refine z_bipush_40 (pc := 38) dX6_atom_38 ?_
    refine z_V1i (pc := 40) dX6_atom_40 lVX6_206 ym_0 rfl (Nat.le_of_ble_eq_true rfl) (kX6_isSign (40 : Int32) s1 D (by omega)) (fun r2 s2 => ?_)
    refine z_if_eq (tgt := 95) (pc := 43) dX6_atom_43 (by decide) (fun _ => ?_) (fun _ => ?_)
    · refine z_aload_n (pc := 95) dX6_atom_95 rfl rfl ?_
      refine gfX6_26 (pc := 96) dX6_atom_96 ym_0 w_14_15 rfl ?_
      refine z_if_ne (tgt := 123) (pc := 99) dX6_atom_99 (by decide) (fun _ => ?_) (fun _ => ?_)
      · exact kX6_atom_j123 D G hG  hD (0 : Int32) s2
      · refine z_aload_n (pc := 102) dX6_atom_102 rfl rfl ?_
        refine gfX6_22 (pc := 103) dX6_atom_103 ym_0 w_14_16 rfl ?_
        refine z_iconst_2 (pc := 106) dX6_atom_106 ?_
        refine z_icmp_ne (tgt := 123) (pc := 107) dX6_atom_107 (by decide) (fun _ => ?_) (fun _ => ?_)
        · exact kX6_atom_j123 D G hG  hD (0 : Int32) s2
        · refine z_aload_n (pc := 110) dX6_atom_110 rfl rfl ?_
          refine gfX6_24 (pc := 111) dX6_atom_111 ym_0 w_15_2 rfl ?_
          refine z_l2i (pc := 114) dX6_atom_114 ?_
          refine z_istore_n (pc := 115) dX6_atom_115 rfl (Nat.le_of_ble_eq_true rfl) (z_so2_1 rfl) ?_
          refine z_aload_n (pc := 116) dX6_atom_116 rfl rfl ?_
          refine z_V0u (pc := 117) dX6_atom_117 lVX6_181 ym_0 rfl (Nat.le_of_ble_eq_true rfl) (kX6_next s2 D (by omega)) (fun _ s7 => ?_)
          refine z_goto (tgt := 161) (pc := 120) dX6_atom_120 (by decide) ?_
          refine z_iload_n (pc := 161) dX6_atom_161 rfl rfl ?_
          exact z_iret (pc := 162) dX6_atom_162 rfl rfl
    · refine z_aload_n (pc := 46) dX6_atom_46 rfl rfl ?_
      refine z_V0i (pc := 47) dX6_atom_47 lVX6_209 ym_0 rfl (Nat.le_of_ble_eq_true rfl) (kX6_textOpens s2 D (by omega)) (fun r8 s8 => ?_)
      refine z_if_eq (tgt := 161) (pc := 50) dX6_atom_50 (by decide) (fun _ => ?_) (fun _ => ?_)
      · refine z_iload_n (pc := 161) dX6_atom_161 rfl rfl ?_
        exact z_iret (pc := 162) dX6_atom_162 rfl rfl
      · refine z_aload_n (pc := 53) dX6_atom_53 rfl rfl ?_
        refine z_V0i (pc := 54) dX6_atom_54 lVX6_217 ym_0 rfl (Nat.le_of_ble_eq_true rfl) (hG.2.2.2.2.2  s8) (fun r9 s9 => ?_)
        refine z_istore_n (pc := 57) dX6_atom_57 rfl (Nat.le_of_ble_eq_true rfl) (z_so2_1 rfl) ?_
        refine z_aload_n (pc := 58) dX6_atom_58 rfl rfl ?_
        refine z_bipush_41 (pc := 59) dX6_atom_59 ?_
        refine z_V1i (pc := 61) dX6_atom_61 lVX6_206 ym_0 rfl (Nat.le_of_ble_eq_true rfl) (kX6_isSign (41 : Int32) s9 D (by omega)) (fun r10 s10 => ?_)
        refine z_if_ne (tgt := 71) (pc := 64) dX6_atom_64 (by decide) (fun _ => ?_) (fun _ => ?_)
        · refine z_aload_n (pc := 71) dX6_atom_71 rfl rfl ?_
          refine z_dup (pc := 72) dX6_atom_72 rfl ?_
          refine gfX6_25 (pc := 73) dX6_atom_73 ym_0 w_14_14 rfl ?_
          refine z_iconst_1 (pc := 76) dX6_atom_76 ?_
          refine z_isub (pc := 77) dX6_atom_77 ?_
          refine pfX6_25 (pc := 78) dX6_atom_78 ym_0 w_14_14 rfl ?_
          refine z_let (fun s11 => ?_)
          refine z_aload_n (pc := 81) dX6_atom_81 rfl rfl ?_
          refine gfX6_26 (pc := 82) dX6_atom_82 ym_0 w_14_15 rfl ?_
          refine z_if_ne (tgt := 161) (pc := 85) dX6_atom_85 (by decide) (fun _ => ?_) (fun _ => ?_)
          · refine z_iload_n (pc := 161) dX6_atom_161 rfl rfl ?_
            exact z_iret (pc := 162) dX6_atom_162 rfl rfl
          · refine z_aload_n (pc := 88) dX6_atom_88 rfl rfl ?_
            refine z_V0u (pc := 89) dX6_atom_89 lVX6_181 ym_0 rfl (Nat.le_of_ble_eq_true rfl) (kX6_next s11 D (by omega)) (fun _ s12 => ?_)
            refine z_goto (tgt := 161) (pc := 92) dX6_atom_92 (by decide) ?_
            refine z_iload_n (pc := 161) dX6_atom_161 rfl rfl ?_
            exact z_iret (pc := 162) dX6_atom_162 rfl rfl
        · refine z_aload_n (pc := 67) dX6_atom_67 rfl rfl ?_
          refine z_V0u (pc := 68) dX6_atom_68 lVX6_178 ym_0 rfl (Nat.le_of_ble_eq_true rfl) (kX6_fail s10 D (by omega)) (fun _ s13 => ?_)
          refine z_aload_n (pc := 71) dX6_atom_71 rfl rfl ?_
          refine z_dup (pc := 72) dX6_atom_72 rfl ?_
          refine gfX6_25 (pc := 73) dX6_atom_73 ym_0 w_14_14 rfl ?_
          refine z_iconst_1 (pc := 76) dX6_atom_76 ?_
          refine z_isub (pc := 77) dX6_atom_77 ?_
          refine pfX6_25 (pc := 78) dX6_atom_78 ym_0 w_14_14 rfl ?_
          refine z_let (fun s14 => ?_)
          refine z_aload_n (pc := 81) dX6_atom_81 rfl rfl ?_
          refine gfX6_26 (pc := 82) dX6_atom_82 ym_0 w_14_15 rfl ?_
          refine z_if_ne (tgt := 161) (pc := 85) dX6_atom_85 (by decide) (fun _ => ?_) (fun _ => ?_)
          · refine z_iload_n (pc := 161) dX6_atom_161 rfl rfl ?_
            exact z_iret (pc := 162) dX6_atom_162 rfl rfl
          · refine z_aload_n (pc := 88) dX6_atom_88 rfl rfl ?_
            refine z_V0u (pc := 89) dX6_atom_89 lVX6_181 ym_0 rfl (Nat.le_of_ble_eq_true rfl) (kX6_next s14 D (by omega)) (fun _ s15 => ?_)
            refine z_goto (tgt := 161) (pc := 92) dX6_atom_92 (by decide) ?_
            refine z_iload_n (pc := 161) dX6_atom_161 rfl rfl ?_
            exact z_iret (pc := 162) dX6_atom_162 rfl rfl
  · refine z_aload_n (pc := 11) dX6_atom_11 rfl rfl ?_
    refine z_V0i (pc := 12) dX6_atom_12 lVX6_209 ym_0 rfl (Nat.le_of_ble_eq_true rfl) (kX6_textOpens s1 D (by omega)) (fun r16 s16 => ?_)
    refine z_if_eq (tgt := 161) (pc := 15) dX6_atom_15 (by decide) (fun _ => ?_) (fun _ => ?_)
    · refine z_iload_n (pc := 161) dX6_atom_161 rfl rfl ?_
      exact z_iret (pc := 162) dX6_atom_162 rfl rfl
    · refine z_aload_n (pc := 18) dX6_atom_18 rfl rfl ?_
      refine z_V0i (pc := 19) dX6_atom_19 lVX6_213 ym_0 rfl (Nat.le_of_ble_eq_true rfl) (hG.1  s16) (fun r17 s17 => ?_)
      refine z_ineg (pc := 22) dX6_atom_22 ?_
      refine z_istore_n (pc := 23) dX6_atom_23 rfl (Nat.le_of_ble_eq_true rfl) (z_so2_1 rfl) ?_
      refine z_aload_n (pc := 24) dX6_atom_24 rfl rfl ?_
      refine z_dup (pc := 25) dX6_atom_25 rfl ?_
      refine gfX6_25 (pc := 26) dX6_atom_26 ym_0 w_14_14 rfl ?_
      refine z_iconst_1 (pc := 29) dX6_atom_29 ?_
      refine z_isub (pc := 30) dX6_atom_30 ?_
      refine pfX6_25 (pc := 31) dX6_atom_31 ym_0 w_14_14 rfl ?_
      refine z_let (fun s18 => ?_)
      refine z_goto (tgt := 161) (pc := 34) dX6_atom_34 (by decide) ?_
      refine z_iload_n (pc := 161) dX6_atom_161 rfl rfl ?_
      exact z_iret (pc := 162) dX6_atom_162 rfl rfl
def fX6_term_5 (G : Nat → z_Mem → Option (Int32 × z_Mem))  : Nat → Int32 → z_Mem → Option (Int32 × z_Mem)
  | 0, _, _ => none
  | q + 1, l1, σ => z_bd (fX6_isSign (42 : Int32) σ) (fun r2 s2 => if r2 = 0 then (some (l1, s2)) else (z_bd (fX6_next s2) (fun _ s3 => z_bd (G 0 s3) (fun r4 s4 => fX6_term_5 G  q (l1 * r4) s4))))
theorem kX6_term_5 (D : Nat) (G : Nat → z_Mem → Option (Int32 × z_Mem)) (hG : zGM_ok G D)   (hD : 4 ≤ D) : ∀ (q : Nat) (l1 : Int32)  (σ : z_Mem), z_Go YM mX6_term (D + 1) z_i 5 [some (zR 0), some (zI l1)] [] σ (fX6_term_5 G q l1 σ) := by
  intro q
  induction q with
  | zero => intros; exact z_none
  | succ q ih =>
    intro l1 σ
    rw [fX6_term_5]
    refine z_aload_n (pc := 5) dX6_term_5 rfl rfl ?_
    refine z_bipush_42 (pc := 6) dX6_term_6 ?_
    refine z_V1i (pc := 8) dX6_term_8 lVX6_206 ym_0 rfl (Nat.le_of_ble_eq_true rfl) (kX6_isSign (42 : Int32) σ D (by omega)) (fun r2 s2 => ?_)
    refine z_if_eq (tgt := 28) (pc := 11) dX6_term_11 (by decide) (fun _ => ?_) (fun _ => ?_)
    · refine z_iload_n (pc := 28) dX6_term_28 rfl rfl ?_
      exact z_iret (pc := 29) dX6_term_29 rfl rfl
    · refine z_aload_n (pc := 14) dX6_term_14 rfl rfl ?_
      refine z_V0u (pc := 15) dX6_term_15 lVX6_181 ym_0 rfl (Nat.le_of_ble_eq_true rfl) (kX6_next s2 D (by omega)) (fun _ s3 => ?_)
      refine z_iload_n (pc := 18) dX6_term_18 rfl rfl ?_
      refine z_aload_n (pc := 19) dX6_term_19 rfl rfl ?_
      refine z_V0i (pc := 20) dX6_term_20 lVX6_213 ym_0 rfl (Nat.le_of_ble_eq_true rfl) (hG.1  s3) (fun r4 s4 => ?_)
      refine z_imul (pc := 23) dX6_term_23 ?_
      refine z_istore_n (pc := 24) dX6_term_24 rfl (Nat.le_of_ble_eq_true rfl) (z_so2_1 rfl) ?_
      refine z_goto (tgt := 5) (pc := 25) dX6_term_25 (by decide) ?_
      exact ih (l1 * r4) s4
def fX6_term_b (G : Nat → z_Mem → Option (Int32 × z_Mem))  (σ : z_Mem) : Option (Int32 × z_Mem) :=
  z_bd (G 0 σ) (fun r1 s1 => fX6_term_5 G z_FU r1 s1)
theorem kX6_term_b (D : Nat) (G : Nat → z_Mem → Option (Int32 × z_Mem)) (hG : zGM_ok G D) (hD : 4 ≤ D)  (σ : z_Mem) : z_Call YM mX6_term (D + 1) z_i [zR 0] σ (fX6_term_b G  σ) := by
  refine z_entry (lv := [some (zR 0), none]) (by decide) rfl (Nat.le_of_ble_eq_true rfl) rfl ?_
  rw [fX6_term_b]
  refine z_aload_n (pc := 0) dX6_term_0 rfl rfl ?_
  refine z_V0i (pc := 1) dX6_term_1 lVX6_213 ym_0 rfl (Nat.le_of_ble_eq_true rfl) (hG.1  σ) (fun r1 s1 => ?_)
  refine z_istore_n (pc := 4) dX6_term_4 rfl (Nat.le_of_ble_eq_true rfl) (z_so2_1 rfl) ?_
  exact kX6_term_5 D G hG  hD z_FU r1 s1
def fX6_added_5 (G : Nat → z_Mem → Option (Int32 × z_Mem))  : Nat → Int32 → z_Mem → Option (Int32 × z_Mem)
  | 0, _, _ => none
  | q + 1, l1, σ => z_bd (fX6_isSign (43 : Int32) σ) (fun r2 s2 => if r2 = 0 then (z_bd (fX6_isSign (45 : Int32) s2) (fun r7 s7 => if r7 = 0 then (some (l1, s7)) else (if lg_cmp (s7.2 0 24) (43 : Int64) = 0 then (z_bd (fX6_next s7) (fun _ s10 => z_bd (G 1 s10) (fun r11 s11 => fX6_added_5 G  q (l1 + r11) s11))) else (z_bd (fX6_next s7) (fun _ s8 => z_bd (G 1 s8) (fun r9 s9 => fX6_added_5 G  q (l1 - r9) s9)))))) else (if lg_cmp (s2.2 0 24) (43 : Int64) = 0 then (z_bd (fX6_next s2) (fun _ s5 => z_bd (G 1 s5) (fun r6 s6 => fX6_added_5 G  q (l1 + r6) s6))) else (z_bd (fX6_next s2) (fun _ s3 => z_bd (G 1 s3) (fun r4 s4 => fX6_added_5 G  q (l1 - r4) s4)))))
theorem kX6_added_5 (D : Nat) (G : Nat → z_Mem → Option (Int32 × z_Mem)) (hG : zGM_ok G D)   (hD : 4 ≤ D) : ∀ (q : Nat) (l1 : Int32)  (σ : z_Mem), z_Go YM mX6_added (D + 1) z_i 5 [some (zR 0), some (zI l1), none, none] [] σ (fX6_added_5 G q l1 σ) := by
  intro q
  induction q with
  | zero => intros; exact z_none
  | succ q ih =>
    intro l1 σ
    rw [fX6_added_5]
    refine z_aload_n (pc := 5) dX6_added_5 rfl rfl ?_
    refine z_bipush_43 (pc := 6) dX6_added_6 ?_
    refine z_V1i (pc := 8) dX6_added_8 lVX6_206 ym_0 rfl (Nat.le_of_ble_eq_true rfl) (kX6_isSign (43 : Int32) σ D (by omega)) (fun r2 s2 => ?_)
    refine z_if_ne (tgt := 23) (pc := 11) dX6_added_11 (by decide) (fun _ => ?_) (fun _ => ?_)
    · refine z_aload_n (pc := 23) dX6_added_23 rfl rfl ?_
      refine gfX6_24 (pc := 24) dX6_added_24 ym_0 w_15_2 rfl ?_
      refine z_ldc2 (v := 43) (pc := 27) dX6_added_27 w_16_9 ?_
      refine z_lcmp (pc := 30) dX6_added_30 ?_
      refine z_if_ne (tgt := 38) (pc := 31) dX6_added_31 (by decide) (fun _ => ?_) (fun _ => ?_)
      · refine z_iconst_0 (pc := 38) dX6_added_38 ?_
        refine z_istore_n (pc := 39) dX6_added_39 rfl (Nat.le_of_ble_eq_true rfl) (z_so4_2 rfl) ?_
        refine z_aload_n (pc := 40) dX6_added_40 rfl rfl ?_
        refine z_V0u (pc := 41) dX6_added_41 lVX6_181 ym_0 rfl (Nat.le_of_ble_eq_true rfl) (kX6_next s2 D (by omega)) (fun _ s3 => ?_)
        refine z_aload_n (pc := 44) dX6_added_44 rfl rfl ?_
        refine z_V0i (pc := 45) dX6_added_45 lVX6_223 ym_0 rfl (Nat.le_of_ble_eq_true rfl) (hG.2.1  s3) (fun r4 s4 => ?_)
        refine z_istore_n (pc := 48) dX6_added_48 rfl (Nat.le_of_ble_eq_true rfl) (z_so4_3 rfl) ?_
        refine z_iload_n (pc := 49) dX6_added_49 rfl rfl ?_
        refine z_if_eq_T (tgt := 59) (pc := 50) dX6_added_50 (by decide) (by decide) ?_
        refine z_iload_n (pc := 59) dX6_added_59 rfl rfl ?_
        refine z_iload_n (pc := 60) dX6_added_60 rfl rfl ?_
        refine z_isub (pc := 61) dX6_added_61 ?_
        refine z_istore_n (pc := 62) dX6_added_62 rfl (Nat.le_of_ble_eq_true rfl) (z_so4_1 rfl) ?_
        refine z_goto (tgt := 5) (pc := 63) dX6_added_63 (by decide) ?_
        exact z_weak (lv' := [some (zR 0), some (zI (l1 - r4)), none, none]) (z_sub_ok ⟨rfl, rfl, trivial⟩) (ih (l1 - r4) s4)
      · refine z_iconst_1 (pc := 34) dX6_added_34 ?_
        refine z_goto (tgt := 39) (pc := 35) dX6_added_35 (by decide) ?_
        refine z_istore_n (pc := 39) dX6_added_39 rfl (Nat.le_of_ble_eq_true rfl) (z_so4_2 rfl) ?_
        refine z_aload_n (pc := 40) dX6_added_40 rfl rfl ?_
        refine z_V0u (pc := 41) dX6_added_41 lVX6_181 ym_0 rfl (Nat.le_of_ble_eq_true rfl) (kX6_next s2 D (by omega)) (fun _ s5 => ?_)
        refine z_aload_n (pc := 44) dX6_added_44 rfl rfl ?_
        refine z_V0i (pc := 45) dX6_added_45 lVX6_223 ym_0 rfl (Nat.le_of_ble_eq_true rfl) (hG.2.1  s5) (fun r6 s6 => ?_)
        refine z_istore_n (pc := 48) dX6_added_48 rfl (Nat.le_of_ble_eq_true rfl) (z_so4_3 rfl) ?_
        refine z_iload_n (pc := 49) dX6_added_49 rfl rfl ?_
        refine z_if_eq_N (tgt := 59) (pc := 50) dX6_added_50 (by decide) (by decide) ?_
        refine z_iload_n (pc := 53) dX6_added_53 rfl rfl ?_
        refine z_iload_n (pc := 54) dX6_added_54 rfl rfl ?_
        refine z_iadd (pc := 55) dX6_added_55 ?_
        refine z_goto (tgt := 62) (pc := 56) dX6_added_56 (by decide) ?_
        refine z_istore_n (pc := 62) dX6_added_62 rfl (Nat.le_of_ble_eq_true rfl) (z_so4_1 rfl) ?_
        refine z_goto (tgt := 5) (pc := 63) dX6_added_63 (by decide) ?_
        exact z_weak (lv' := [some (zR 0), some (zI (l1 + r6)), none, none]) (z_sub_ok ⟨rfl, rfl, trivial⟩) (ih (l1 + r6) s6)
    · refine z_aload_n (pc := 14) dX6_added_14 rfl rfl ?_
      refine z_bipush_45 (pc := 15) dX6_added_15 ?_
      refine z_V1i (pc := 17) dX6_added_17 lVX6_206 ym_0 rfl (Nat.le_of_ble_eq_true rfl) (kX6_isSign (45 : Int32) s2 D (by omega)) (fun r7 s7 => ?_)
      refine z_if_eq (tgt := 66) (pc := 20) dX6_added_20 (by decide) (fun _ => ?_) (fun _ => ?_)
      · refine z_iload_n (pc := 66) dX6_added_66 rfl rfl ?_
        exact z_iret (pc := 67) dX6_added_67 rfl rfl
      · refine z_aload_n (pc := 23) dX6_added_23 rfl rfl ?_
        refine gfX6_24 (pc := 24) dX6_added_24 ym_0 w_15_2 rfl ?_
        refine z_ldc2 (v := 43) (pc := 27) dX6_added_27 w_16_9 ?_
        refine z_lcmp (pc := 30) dX6_added_30 ?_
        refine z_if_ne (tgt := 38) (pc := 31) dX6_added_31 (by decide) (fun _ => ?_) (fun _ => ?_)
        · refine z_iconst_0 (pc := 38) dX6_added_38 ?_
          refine z_istore_n (pc := 39) dX6_added_39 rfl (Nat.le_of_ble_eq_true rfl) (z_so4_2 rfl) ?_
          refine z_aload_n (pc := 40) dX6_added_40 rfl rfl ?_
          refine z_V0u (pc := 41) dX6_added_41 lVX6_181 ym_0 rfl (Nat.le_of_ble_eq_true rfl) (kX6_next s7 D (by omega)) (fun _ s8 => ?_)
          refine z_aload_n (pc := 44) dX6_added_44 rfl rfl ?_
          refine z_V0i (pc := 45) dX6_added_45 lVX6_223 ym_0 rfl (Nat.le_of_ble_eq_true rfl) (hG.2.1  s8) (fun r9 s9 => ?_)
          refine z_istore_n (pc := 48) dX6_added_48 rfl (Nat.le_of_ble_eq_true rfl) (z_so4_3 rfl) ?_
          refine z_iload_n (pc := 49) dX6_added_49 rfl rfl ?_
          refine z_if_eq_T (tgt := 59) (pc := 50) dX6_added_50 (by decide) (by decide) ?_
          refine z_iload_n (pc := 59) dX6_added_59 rfl rfl ?_
          refine z_iload_n (pc := 60) dX6_added_60 rfl rfl ?_
          refine z_isub (pc := 61) dX6_added_61 ?_
          refine z_istore_n (pc := 62) dX6_added_62 rfl (Nat.le_of_ble_eq_true rfl) (z_so4_1 rfl) ?_
          refine z_goto (tgt := 5) (pc := 63) dX6_added_63 (by decide) ?_
          exact z_weak (lv' := [some (zR 0), some (zI (l1 - r9)), none, none]) (z_sub_ok ⟨rfl, rfl, trivial⟩) (ih (l1 - r9) s9)
        · refine z_iconst_1 (pc := 34) dX6_added_34 ?_
          refine z_goto (tgt := 39) (pc := 35) dX6_added_35 (by decide) ?_
          refine z_istore_n (pc := 39) dX6_added_39 rfl (Nat.le_of_ble_eq_true rfl) (z_so4_2 rfl) ?_
          refine z_aload_n (pc := 40) dX6_added_40 rfl rfl ?_
          refine z_V0u (pc := 41) dX6_added_41 lVX6_181 ym_0 rfl (Nat.le_of_ble_eq_true rfl) (kX6_next s7 D (by omega)) (fun _ s10 => ?_)
          refine z_aload_n (pc := 44) dX6_added_44 rfl rfl ?_
          refine z_V0i (pc := 45) dX6_added_45 lVX6_223 ym_0 rfl (Nat.le_of_ble_eq_true rfl) (hG.2.1  s10) (fun r11 s11 => ?_)
          refine z_istore_n (pc := 48) dX6_added_48 rfl (Nat.le_of_ble_eq_true rfl) (z_so4_3 rfl) ?_
          refine z_iload_n (pc := 49) dX6_added_49 rfl rfl ?_
          refine z_if_eq_N (tgt := 59) (pc := 50) dX6_added_50 (by decide) (by decide) ?_
          refine z_iload_n (pc := 53) dX6_added_53 rfl rfl ?_
          refine z_iload_n (pc := 54) dX6_added_54 rfl rfl ?_
          refine z_iadd (pc := 55) dX6_added_55 ?_
          refine z_goto (tgt := 62) (pc := 56) dX6_added_56 (by decide) ?_
          refine z_istore_n (pc := 62) dX6_added_62 rfl (Nat.le_of_ble_eq_true rfl) (z_so4_1 rfl) ?_
          refine z_goto (tgt := 5) (pc := 63) dX6_added_63 (by decide) ?_
          exact z_weak (lv' := [some (zR 0), some (zI (l1 + r11)), none, none]) (z_sub_ok ⟨rfl, rfl, trivial⟩) (ih (l1 + r11) s11)
def fX6_added_b (G : Nat → z_Mem → Option (Int32 × z_Mem))  (σ : z_Mem) : Option (Int32 × z_Mem) :=
  z_bd (G 1 σ) (fun r1 s1 => fX6_added_5 G z_FU r1 s1)
theorem kX6_added_b (D : Nat) (G : Nat → z_Mem → Option (Int32 × z_Mem)) (hG : zGM_ok G D) (hD : 4 ≤ D)  (σ : z_Mem) : z_Call YM mX6_added (D + 1) z_i [zR 0] σ (fX6_added_b G  σ) := by
  refine z_entry (lv := [some (zR 0), none, none, none]) (by decide) rfl (Nat.le_of_ble_eq_true rfl) rfl ?_
  rw [fX6_added_b]
  refine z_aload_n (pc := 0) dX6_added_0 rfl rfl ?_
  refine z_V0i (pc := 1) dX6_added_1 lVX6_223 ym_0 rfl (Nat.le_of_ble_eq_true rfl) (hG.2.1  σ) (fun r1 s1 => ?_)
  refine z_istore_n (pc := 4) dX6_added_4 rfl (Nat.le_of_ble_eq_true rfl) (z_so4_1 rfl) ?_
  exact kX6_added_5 D G hG  hD z_FU r1 s1
def fX6_not_j77 (G : Nat → z_Mem → Option (Int32 × z_Mem))  (l1 : Int32) (σ : z_Mem) : Option (Int32 × z_Mem) :=
  if lg_cmp (σ.2 0 24) (60 : Int64) = 0 then (z_bd (fX6_next σ) (fun _ s6 => z_bd (G 2 s6) (fun r7 s7 => if r7 ≤ l1 then (some ((0 : Int32), s7)) else (some ((1 : Int32), s7))))) else (z_bd (fX6_next σ) (fun _ s4 => z_bd (G 2 s4) (fun r5 s5 => if l1 = r5 then (some ((1 : Int32), s5)) else (some ((0 : Int32), s5)))))
theorem kX6_not_j77 (D : Nat) (G : Nat → z_Mem → Option (Int32 × z_Mem)) (hG : zGM_ok G D)   (hD : 4 ≤ D) (l1 : Int32)  (σ : z_Mem) : z_Go YM mX6_not (D + 1) z_i 77 [some (zR 0), some (zI l1), none, none] [] σ (fX6_not_j77 G l1 σ) := by
  rw [fX6_not_j77]
  refine z_aload_n (pc := 77) dX6_not_77 rfl rfl ?_
  refine gfX6_24 (pc := 78) dX6_not_78 ym_0 w_15_2 rfl ?_
  refine z_ldc2 (v := 60) (pc := 81) dX6_not_81 w_17_10 ?_
  refine z_lcmp (pc := 84) dX6_not_84 ?_
  refine z_if_ne (tgt := 92) (pc := 85) dX6_not_85 (by decide) (fun _ => ?_) (fun _ => ?_)
  · refine z_iconst_0 (pc := 92) dX6_not_92 ?_
    refine z_istore_n (pc := 93) dX6_not_93 rfl (Nat.le_of_ble_eq_true rfl) (z_so4_2 rfl) ?_
    refine z_aload_n (pc := 94) dX6_not_94 rfl rfl ?_
    refine z_V0u (pc := 95) dX6_not_95 lVX6_181 ym_0 rfl (Nat.le_of_ble_eq_true rfl) (kX6_next σ D (by omega)) (fun _ s4 => ?_)
    refine z_aload_n (pc := 98) dX6_not_98 rfl rfl ?_
    refine z_V0i (pc := 99) dX6_not_99 lVX6_231 ym_0 rfl (Nat.le_of_ble_eq_true rfl) (hG.2.2.1  s4) (fun r5 s5 => ?_)
    refine z_istore_n (pc := 102) dX6_not_102 rfl (Nat.le_of_ble_eq_true rfl) (z_so4_3 rfl) ?_
    refine z_iload_n (pc := 103) dX6_not_103 rfl rfl ?_
    refine z_if_eq_T (tgt := 115) (pc := 104) dX6_not_104 (by decide) (by decide) ?_
    refine z_iload_n (pc := 115) dX6_not_115 rfl rfl ?_
    refine z_iload_n (pc := 116) dX6_not_116 rfl rfl ?_
    refine z_icmp_ne (tgt := 124) (pc := 117) dX6_not_117 (by decide) (fun _ => ?_) (fun _ => ?_)
    · refine z_iconst_0 (pc := 124) dX6_not_124 ?_
      exact z_iret (pc := 125) dX6_not_125 rfl rfl
    · refine z_iconst_1 (pc := 120) dX6_not_120 ?_
      refine z_goto (tgt := 125) (pc := 121) dX6_not_121 (by decide) ?_
      exact z_iret (pc := 125) dX6_not_125 rfl rfl
  · refine z_iconst_1 (pc := 88) dX6_not_88 ?_
    refine z_goto (tgt := 93) (pc := 89) dX6_not_89 (by decide) ?_
    refine z_istore_n (pc := 93) dX6_not_93 rfl (Nat.le_of_ble_eq_true rfl) (z_so4_2 rfl) ?_
    refine z_aload_n (pc := 94) dX6_not_94 rfl rfl ?_
    refine z_V0u (pc := 95) dX6_not_95 lVX6_181 ym_0 rfl (Nat.le_of_ble_eq_true rfl) (kX6_next σ D (by omega)) (fun _ s6 => ?_)
    refine z_aload_n (pc := 98) dX6_not_98 rfl rfl ?_
    refine z_V0i (pc := 99) dX6_not_99 lVX6_231 ym_0 rfl (Nat.le_of_ble_eq_true rfl) (hG.2.2.1  s6) (fun r7 s7 => ?_)
    refine z_istore_n (pc := 102) dX6_not_102 rfl (Nat.le_of_ble_eq_true rfl) (z_so4_3 rfl) ?_
    refine z_iload_n (pc := 103) dX6_not_103 rfl rfl ?_
    refine z_if_eq_N (tgt := 115) (pc := 104) dX6_not_104 (by decide) (by decide) ?_
    refine z_iload_n (pc := 107) dX6_not_107 rfl rfl ?_
    refine z_iload_n (pc := 108) dX6_not_108 rfl rfl ?_
    refine z_icmp_ge (tgt := 124) (pc := 109) dX6_not_109 (by decide) (fun _ => ?_) (fun _ => ?_)
    · refine z_iconst_0 (pc := 124) dX6_not_124 ?_
      exact z_iret (pc := 125) dX6_not_125 rfl rfl
    · refine z_goto (tgt := 120) (pc := 112) dX6_not_112 (by decide) ?_
      refine z_iconst_1 (pc := 120) dX6_not_120 ?_
      refine z_goto (tgt := 125) (pc := 121) dX6_not_121 (by decide) ?_
      exact z_iret (pc := 125) dX6_not_125 rfl rfl
def fX6_not_b (G : Nat → z_Mem → Option (Int32 × z_Mem))  (σ : z_Mem) : Option (Int32 × z_Mem) :=
  z_bd (fX6_isWord (110 : Int32) (111 : Int32) (116 : Int32) (0 : Int32) (0 : Int32) (0 : Int32) (0 : Int32) (0 : Int32) σ) (fun r1 s1 => if r1 = 0 then (z_bd (G 2 s1) (fun r2 s2 => z_bd (fX6_isSign (60 : Int32) s2) (fun r3 s3 => if r3 = 0 then (z_bd (fX6_isSign (61 : Int32) s3) (fun r8 s8 => if r8 = 0 then (some (r2, s8)) else (fX6_not_j77 G r2 s8))) else (fX6_not_j77 G r2 s3)))) else (z_bd (fX6_textOpens s1) (fun r9 s9 => if r9 = 0 then (some ((0 : Int32), s9)) else (z_bd (G 3 s9) (fun r10 s10 => z_st (z_pt s10 0 25 ((s10.1 0 25) - (1 : Int32))) (fun s11 => if r10 = 0 then (some ((1 : Int32), s11)) else (some ((0 : Int32), s11))))))))
theorem kX6_not_b (D : Nat) (G : Nat → z_Mem → Option (Int32 × z_Mem)) (hG : zGM_ok G D) (hD : 4 ≤ D)  (σ : z_Mem) : z_Call YM mX6_not (D + 1) z_i [zR 0] σ (fX6_not_b G  σ) := by
  refine z_entry (lv := [some (zR 0), none, none, none]) (by decide) rfl (Nat.le_of_ble_eq_true rfl) rfl ?_
  rw [fX6_not_b]
  refine z_aload_n (pc := 0) dX6_not_0 rfl rfl ?_
  refine z_bipush_110 (pc := 1) dX6_not_1 ?_
  refine z_bipush_111 (pc := 3) dX6_not_3 ?_
  refine z_bipush_116 (pc := 5) dX6_not_5 ?_
  refine z_iconst_0 (pc := 7) dX6_not_7 ?_
  refine z_iconst_0 (pc := 8) dX6_not_8 ?_
  refine z_iconst_0 (pc := 9) dX6_not_9 ?_
  refine z_iconst_0 (pc := 10) dX6_not_10 ?_
  refine z_iconst_0 (pc := 11) dX6_not_11 ?_
  refine z_V8i (pc := 12) dX6_not_12 lVX6_184 ym_0 rfl (Nat.le_of_ble_eq_true rfl) (kX6_isWord (110 : Int32) (111 : Int32) (116 : Int32) (0 : Int32) (0 : Int32) (0 : Int32) (0 : Int32) (0 : Int32) σ D (by omega)) (fun r1 s1 => ?_)
  refine z_if_eq (tgt := 52) (pc := 15) dX6_not_15 (by decide) (fun _ => ?_) (fun _ => ?_)
  · refine z_aload_n (pc := 52) dX6_not_52 rfl rfl ?_
    refine z_V0i (pc := 53) dX6_not_53 lVX6_231 ym_0 rfl (Nat.le_of_ble_eq_true rfl) (hG.2.2.1  s1) (fun r2 s2 => ?_)
    refine z_istore_n (pc := 56) dX6_not_56 rfl (Nat.le_of_ble_eq_true rfl) (z_so4_1 rfl) ?_
    refine z_aload_n (pc := 57) dX6_not_57 rfl rfl ?_
    refine z_bipush_60 (pc := 58) dX6_not_58 ?_
    refine z_V1i (pc := 60) dX6_not_60 lVX6_206 ym_0 rfl (Nat.le_of_ble_eq_true rfl) (kX6_isSign (60 : Int32) s2 D (by omega)) (fun r3 s3 => ?_)
    refine z_if_ne (tgt := 77) (pc := 63) dX6_not_63 (by decide) (fun _ => ?_) (fun _ => ?_)
    · exact kX6_not_j77 D G hG  hD r2 s3
    · refine z_aload_n (pc := 66) dX6_not_66 rfl rfl ?_
      refine z_bipush_61 (pc := 67) dX6_not_67 ?_
      refine z_V1i (pc := 69) dX6_not_69 lVX6_206 ym_0 rfl (Nat.le_of_ble_eq_true rfl) (kX6_isSign (61 : Int32) s3 D (by omega)) (fun r8 s8 => ?_)
      refine z_if_ne (tgt := 77) (pc := 72) dX6_not_72 (by decide) (fun _ => ?_) (fun _ => ?_)
      · exact kX6_not_j77 D G hG  hD r2 s8
      · refine z_iload_n (pc := 75) dX6_not_75 rfl rfl ?_
        exact z_iret (pc := 76) dX6_not_76 rfl rfl
  · refine z_aload_n (pc := 18) dX6_not_18 rfl rfl ?_
    refine z_V0i (pc := 19) dX6_not_19 lVX6_209 ym_0 rfl (Nat.le_of_ble_eq_true rfl) (kX6_textOpens s1 D (by omega)) (fun r9 s9 => ?_)
    refine z_if_ne (tgt := 27) (pc := 22) dX6_not_22 (by decide) (fun _ => ?_) (fun _ => ?_)
    · refine z_aload_n (pc := 27) dX6_not_27 rfl rfl ?_
      refine z_V0i (pc := 28) dX6_not_28 lVX6_228 ym_0 rfl (Nat.le_of_ble_eq_true rfl) (hG.2.2.2.1  s9) (fun r10 s10 => ?_)
      refine z_istore_n (pc := 31) dX6_not_31 rfl (Nat.le_of_ble_eq_true rfl) (z_so4_1 rfl) ?_
      refine z_aload_n (pc := 32) dX6_not_32 rfl rfl ?_
      refine z_dup (pc := 33) dX6_not_33 rfl ?_
      refine gfX6_25 (pc := 34) dX6_not_34 ym_0 w_14_14 rfl ?_
      refine z_iconst_1 (pc := 37) dX6_not_37 ?_
      refine z_isub (pc := 38) dX6_not_38 ?_
      refine pfX6_25 (pc := 39) dX6_not_39 ym_0 w_14_14 rfl ?_
      refine z_let (fun s11 => ?_)
      refine z_iload_n (pc := 42) dX6_not_42 rfl rfl ?_
      refine z_if_ne (tgt := 50) (pc := 43) dX6_not_43 (by decide) (fun _ => ?_) (fun _ => ?_)
      · refine z_iconst_0 (pc := 50) dX6_not_50 ?_
        exact z_iret (pc := 51) dX6_not_51 rfl rfl
      · refine z_iconst_1 (pc := 46) dX6_not_46 ?_
        refine z_goto (tgt := 51) (pc := 47) dX6_not_47 (by decide) ?_
        exact z_iret (pc := 51) dX6_not_51 rfl rfl
    · refine z_iconst_0 (pc := 25) dX6_not_25 ?_
      exact z_iret (pc := 26) dX6_not_26 rfl rfl
def fX6_both_5 (G : Nat → z_Mem → Option (Int32 × z_Mem))  : Nat → Int32 → z_Mem → Option (Int32 × z_Mem)
  | 0, _, _ => none
  | q + 1, l1, σ => z_bd (fX6_isWord (97 : Int32) (110 : Int32) (100 : Int32) (0 : Int32) (0 : Int32) (0 : Int32) (0 : Int32) (0 : Int32) σ) (fun r2 s2 => if r2 = 0 then (some (l1, s2)) else (z_bd (fX6_next s2) (fun _ s3 => z_bd (G 3 s3) (fun r4 s4 => if l1 = 0 then (fX6_both_5 G  q (0 : Int32) s4) else (if r4 = 0 then (fX6_both_5 G  q (0 : Int32) s4) else (fX6_both_5 G  q (1 : Int32) s4))))))
theorem kX6_both_5 (D : Nat) (G : Nat → z_Mem → Option (Int32 × z_Mem)) (hG : zGM_ok G D)   (hD : 4 ≤ D) : ∀ (q : Nat) (l1 : Int32)  (σ : z_Mem), z_Go YM mX6_both (D + 1) z_i 5 [some (zR 0), some (zI l1), none] [] σ (fX6_both_5 G q l1 σ) := by
  intro q
  induction q with
  | zero => intros; exact z_none
  | succ q ih =>
    intro l1 σ
    rw [fX6_both_5]
    refine z_aload_n (pc := 5) dX6_both_5 rfl rfl ?_
    refine z_bipush_97 (pc := 6) dX6_both_6 ?_
    refine z_bipush_110 (pc := 8) dX6_both_8 ?_
    refine z_bipush_100 (pc := 10) dX6_both_10 ?_
    refine z_iconst_0 (pc := 12) dX6_both_12 ?_
    refine z_iconst_0 (pc := 13) dX6_both_13 ?_
    refine z_iconst_0 (pc := 14) dX6_both_14 ?_
    refine z_iconst_0 (pc := 15) dX6_both_15 ?_
    refine z_iconst_0 (pc := 16) dX6_both_16 ?_
    refine z_V8i (pc := 17) dX6_both_17 lVX6_184 ym_0 rfl (Nat.le_of_ble_eq_true rfl) (kX6_isWord (97 : Int32) (110 : Int32) (100 : Int32) (0 : Int32) (0 : Int32) (0 : Int32) (0 : Int32) (0 : Int32) σ D (by omega)) (fun r2 s2 => ?_)
    refine z_if_eq (tgt := 49) (pc := 20) dX6_both_20 (by decide) (fun _ => ?_) (fun _ => ?_)
    · refine z_iload_n (pc := 49) dX6_both_49 rfl rfl ?_
      exact z_iret (pc := 50) dX6_both_50 rfl rfl
    · refine z_aload_n (pc := 23) dX6_both_23 rfl rfl ?_
      refine z_V0u (pc := 24) dX6_both_24 lVX6_181 ym_0 rfl (Nat.le_of_ble_eq_true rfl) (kX6_next s2 D (by omega)) (fun _ s3 => ?_)
      refine z_aload_n (pc := 27) dX6_both_27 rfl rfl ?_
      refine z_V0i (pc := 28) dX6_both_28 lVX6_228 ym_0 rfl (Nat.le_of_ble_eq_true rfl) (hG.2.2.2.1  s3) (fun r4 s4 => ?_)
      refine z_istore_n (pc := 31) dX6_both_31 rfl (Nat.le_of_ble_eq_true rfl) (z_so3_2 rfl) ?_
      refine z_iload_n (pc := 32) dX6_both_32 rfl rfl ?_
      refine z_if_eq (tgt := 44) (pc := 33) dX6_both_33 (by decide) (fun _ => ?_) (fun _ => ?_)
      · refine z_iconst_0 (pc := 44) dX6_both_44 ?_
        refine z_istore_n (pc := 45) dX6_both_45 rfl (Nat.le_of_ble_eq_true rfl) (z_so3_1 rfl) ?_
        refine z_goto (tgt := 5) (pc := 46) dX6_both_46 (by decide) ?_
        exact z_weak (lv' := [some (zR 0), some (zI (0 : Int32)), none]) (z_sub_ok ⟨rfl, rfl, trivial⟩) (ih (0 : Int32) s4)
      · refine z_iload_n (pc := 36) dX6_both_36 rfl rfl ?_
        refine z_if_eq (tgt := 44) (pc := 37) dX6_both_37 (by decide) (fun _ => ?_) (fun _ => ?_)
        · refine z_iconst_0 (pc := 44) dX6_both_44 ?_
          refine z_istore_n (pc := 45) dX6_both_45 rfl (Nat.le_of_ble_eq_true rfl) (z_so3_1 rfl) ?_
          refine z_goto (tgt := 5) (pc := 46) dX6_both_46 (by decide) ?_
          exact z_weak (lv' := [some (zR 0), some (zI (0 : Int32)), none]) (z_sub_ok ⟨rfl, rfl, trivial⟩) (ih (0 : Int32) s4)
        · refine z_iconst_1 (pc := 40) dX6_both_40 ?_
          refine z_goto (tgt := 45) (pc := 41) dX6_both_41 (by decide) ?_
          refine z_istore_n (pc := 45) dX6_both_45 rfl (Nat.le_of_ble_eq_true rfl) (z_so3_1 rfl) ?_
          refine z_goto (tgt := 5) (pc := 46) dX6_both_46 (by decide) ?_
          exact z_weak (lv' := [some (zR 0), some (zI (1 : Int32)), none]) (z_sub_ok ⟨rfl, rfl, trivial⟩) (ih (1 : Int32) s4)
def fX6_both_b (G : Nat → z_Mem → Option (Int32 × z_Mem))  (σ : z_Mem) : Option (Int32 × z_Mem) :=
  z_bd (G 3 σ) (fun r1 s1 => fX6_both_5 G z_FU r1 s1)
theorem kX6_both_b (D : Nat) (G : Nat → z_Mem → Option (Int32 × z_Mem)) (hG : zGM_ok G D) (hD : 4 ≤ D)  (σ : z_Mem) : z_Call YM mX6_both (D + 1) z_i [zR 0] σ (fX6_both_b G  σ) := by
  refine z_entry (lv := [some (zR 0), none, none]) (by decide) rfl (Nat.le_of_ble_eq_true rfl) rfl ?_
  rw [fX6_both_b]
  refine z_aload_n (pc := 0) dX6_both_0 rfl rfl ?_
  refine z_V0i (pc := 1) dX6_both_1 lVX6_228 ym_0 rfl (Nat.le_of_ble_eq_true rfl) (hG.2.2.2.1  σ) (fun r1 s1 => ?_)
  refine z_istore_n (pc := 4) dX6_both_4 rfl (Nat.le_of_ble_eq_true rfl) (z_so3_1 rfl) ?_
  exact kX6_both_5 D G hG  hD z_FU r1 s1
def fX6_either_5 (G : Nat → z_Mem → Option (Int32 × z_Mem))  : Nat → Int32 → z_Mem → Option (Int32 × z_Mem)
  | 0, _, _ => none
  | q + 1, l1, σ => z_bd (fX6_isWord (111 : Int32) (114 : Int32) (0 : Int32) (0 : Int32) (0 : Int32) (0 : Int32) (0 : Int32) (0 : Int32) σ) (fun r2 s2 => if r2 = 0 then (some (l1, s2)) else (z_bd (fX6_next s2) (fun _ s3 => z_bd (G 4 s3) (fun r4 s4 => if l1 = 0 then (if r4 = 0 then (fX6_either_5 G  q (0 : Int32) s4) else (fX6_either_5 G  q (1 : Int32) s4)) else (fX6_either_5 G  q (1 : Int32) s4)))))
theorem kX6_either_5 (D : Nat) (G : Nat → z_Mem → Option (Int32 × z_Mem)) (hG : zGM_ok G D)   (hD : 4 ≤ D) : ∀ (q : Nat) (l1 : Int32)  (σ : z_Mem), z_Go YM mX6_either (D + 1) z_i 5 [some (zR 0), some (zI l1), none] [] σ (fX6_either_5 G q l1 σ) := by
  intro q
  induction q with
  | zero => intros; exact z_none
  | succ q ih =>
    intro l1 σ
    rw [fX6_either_5]
    refine z_aload_n (pc := 5) dX6_either_5 rfl rfl ?_
    refine z_bipush_111 (pc := 6) dX6_either_6 ?_
    refine z_bipush_114 (pc := 8) dX6_either_8 ?_
    refine z_iconst_0 (pc := 10) dX6_either_10 ?_
    refine z_iconst_0 (pc := 11) dX6_either_11 ?_
    refine z_iconst_0 (pc := 12) dX6_either_12 ?_
    refine z_iconst_0 (pc := 13) dX6_either_13 ?_
    refine z_iconst_0 (pc := 14) dX6_either_14 ?_
    refine z_iconst_0 (pc := 15) dX6_either_15 ?_
    refine z_V8i (pc := 16) dX6_either_16 lVX6_184 ym_0 rfl (Nat.le_of_ble_eq_true rfl) (kX6_isWord (111 : Int32) (114 : Int32) (0 : Int32) (0 : Int32) (0 : Int32) (0 : Int32) (0 : Int32) (0 : Int32) σ D (by omega)) (fun r2 s2 => ?_)
    refine z_if_eq (tgt := 48) (pc := 19) dX6_either_19 (by decide) (fun _ => ?_) (fun _ => ?_)
    · refine z_iload_n (pc := 48) dX6_either_48 rfl rfl ?_
      exact z_iret (pc := 49) dX6_either_49 rfl rfl
    · refine z_aload_n (pc := 22) dX6_either_22 rfl rfl ?_
      refine z_V0u (pc := 23) dX6_either_23 lVX6_181 ym_0 rfl (Nat.le_of_ble_eq_true rfl) (kX6_next s2 D (by omega)) (fun _ s3 => ?_)
      refine z_aload_n (pc := 26) dX6_either_26 rfl rfl ?_
      refine z_V0i (pc := 27) dX6_either_27 lVX6_236 ym_0 rfl (Nat.le_of_ble_eq_true rfl) (hG.2.2.2.2.1  s3) (fun r4 s4 => ?_)
      refine z_istore_n (pc := 30) dX6_either_30 rfl (Nat.le_of_ble_eq_true rfl) (z_so3_2 rfl) ?_
      refine z_iload_n (pc := 31) dX6_either_31 rfl rfl ?_
      refine z_if_ne (tgt := 39) (pc := 32) dX6_either_32 (by decide) (fun _ => ?_) (fun _ => ?_)
      · refine z_iconst_1 (pc := 39) dX6_either_39 ?_
        refine z_goto (tgt := 44) (pc := 40) dX6_either_40 (by decide) ?_
        refine z_istore_n (pc := 44) dX6_either_44 rfl (Nat.le_of_ble_eq_true rfl) (z_so3_1 rfl) ?_
        refine z_goto (tgt := 5) (pc := 45) dX6_either_45 (by decide) ?_
        exact z_weak (lv' := [some (zR 0), some (zI (1 : Int32)), none]) (z_sub_ok ⟨rfl, rfl, trivial⟩) (ih (1 : Int32) s4)
      · refine z_iload_n (pc := 35) dX6_either_35 rfl rfl ?_
        refine z_if_eq (tgt := 43) (pc := 36) dX6_either_36 (by decide) (fun _ => ?_) (fun _ => ?_)
        · refine z_iconst_0 (pc := 43) dX6_either_43 ?_
          refine z_istore_n (pc := 44) dX6_either_44 rfl (Nat.le_of_ble_eq_true rfl) (z_so3_1 rfl) ?_
          refine z_goto (tgt := 5) (pc := 45) dX6_either_45 (by decide) ?_
          exact z_weak (lv' := [some (zR 0), some (zI (0 : Int32)), none]) (z_sub_ok ⟨rfl, rfl, trivial⟩) (ih (0 : Int32) s4)
        · refine z_iconst_1 (pc := 39) dX6_either_39 ?_
          refine z_goto (tgt := 44) (pc := 40) dX6_either_40 (by decide) ?_
          refine z_istore_n (pc := 44) dX6_either_44 rfl (Nat.le_of_ble_eq_true rfl) (z_so3_1 rfl) ?_
          refine z_goto (tgt := 5) (pc := 45) dX6_either_45 (by decide) ?_
          exact z_weak (lv' := [some (zR 0), some (zI (1 : Int32)), none]) (z_sub_ok ⟨rfl, rfl, trivial⟩) (ih (1 : Int32) s4)
def fX6_either_b (G : Nat → z_Mem → Option (Int32 × z_Mem))  (σ : z_Mem) : Option (Int32 × z_Mem) :=
  z_bd (G 4 σ) (fun r1 s1 => fX6_either_5 G z_FU r1 s1)
theorem kX6_either_b (D : Nat) (G : Nat → z_Mem → Option (Int32 × z_Mem)) (hG : zGM_ok G D) (hD : 4 ≤ D)  (σ : z_Mem) : z_Call YM mX6_either (D + 1) z_i [zR 0] σ (fX6_either_b G  σ) := by
  refine z_entry (lv := [some (zR 0), none, none]) (by decide) rfl (Nat.le_of_ble_eq_true rfl) rfl ?_
  rw [fX6_either_b]
  refine z_aload_n (pc := 0) dX6_either_0 rfl rfl ?_
  refine z_V0i (pc := 1) dX6_either_1 lVX6_236 ym_0 rfl (Nat.le_of_ble_eq_true rfl) (hG.2.2.2.2.1  σ) (fun r1 s1 => ?_)
  refine z_istore_n (pc := 4) dX6_either_4 rfl (Nat.le_of_ble_eq_true rfl) (z_so3_1 rfl) ?_
  exact kX6_either_5 D G hG  hD z_FU r1 s1
def zGM : Nat → Nat → z_Mem → Option (Int32 × z_Mem)
  | 0, _, _ => none
  | n + 1, t, σ => if t = 0 then fX6_atom_b (zGM n)  σ else if t = 1 then fX6_term_b (zGM n)  σ else if t = 2 then fX6_added_b (zGM n)  σ else if t = 3 then fX6_not_b (zGM n)  σ else if t = 4 then fX6_both_b (zGM n)  σ else fX6_either_b (zGM n)  σ
theorem zGM_all : ∀ (n D : Nat), n + 4 ≤ D → zGM_ok (zGM n) D
  | 0, D, _ => ⟨fun _ => z_callNone, fun _ => z_callNone, fun _ => z_callNone, fun _ => z_callNone, fun _ => z_callNone, fun _ => z_callNone⟩
  | n + 1, D0, hD => by
    obtain ⟨D, rfl⟩ : ∃ E, D0 = E + 1 := ⟨D0 - 1, by omega⟩
    have ih := zGM_all n
    exact ⟨fun σ => kX6_atom_b D (zGM n) (ih D (by omega)) (by omega) σ, fun σ => kX6_term_b D (zGM n) (ih D (by omega)) (by omega) σ, fun σ => kX6_added_b D (zGM n) (ih D (by omega)) (by omega) σ, fun σ => kX6_not_b D (zGM n) (ih D (by omega)) (by omega) σ, fun σ => kX6_both_b D (zGM n) (ih D (by omega)) (by omega) σ, fun σ => kX6_either_b D (zGM n) (ih D (by omega)) (by omega) σ⟩
def fX6_atom  (σ : z_Mem) : Option (Int32 × z_Mem) := zGM 64 0  σ
theorem kX6_atom  (σ : z_Mem) (D : Nat) (hD : 68 ≤ D) : z_Call YM mX6_atom D z_i [zR 0] σ (fX6_atom  σ) := (zGM_all 64 D (by omega)).1  σ
def fX6_term  (σ : z_Mem) : Option (Int32 × z_Mem) := zGM 64 1  σ
theorem kX6_term  (σ : z_Mem) (D : Nat) (hD : 68 ≤ D) : z_Call YM mX6_term D z_i [zR 0] σ (fX6_term  σ) := (zGM_all 64 D (by omega)).2.1  σ
def fX6_added  (σ : z_Mem) : Option (Int32 × z_Mem) := zGM 64 2  σ
theorem kX6_added  (σ : z_Mem) (D : Nat) (hD : 68 ≤ D) : z_Call YM mX6_added D z_i [zR 0] σ (fX6_added  σ) := (zGM_all 64 D (by omega)).2.2.1  σ
def fX6_not  (σ : z_Mem) : Option (Int32 × z_Mem) := zGM 64 3  σ
theorem kX6_not  (σ : z_Mem) (D : Nat) (hD : 68 ≤ D) : z_Call YM mX6_not D z_i [zR 0] σ (fX6_not  σ) := (zGM_all 64 D (by omega)).2.2.2.1  σ
def fX6_both  (σ : z_Mem) : Option (Int32 × z_Mem) := zGM 64 4  σ
theorem kX6_both  (σ : z_Mem) (D : Nat) (hD : 68 ≤ D) : z_Call YM mX6_both D z_i [zR 0] σ (fX6_both  σ) := (zGM_all 64 D (by omega)).2.2.2.2.1  σ
def fX6_either  (σ : z_Mem) : Option (Int32 × z_Mem) := zGM 64 5  σ
theorem kX6_either  (σ : z_Mem) (D : Nat) (hD : 68 ≤ D) : z_Call YM mX6_either D z_i [zR 0] σ (fX6_either  σ) := (zGM_all 64 D (by omega)).2.2.2.2.2  σ
def fX6_part_j48  (l2 : Int32) (σ : z_Mem) : Option (Int32 × z_Mem) :=
  if σ.1 0 26 = 0 then (z_bd (fX6_next σ) (fun _ s3 => some (l2, s3))) else (some (l2, σ))
theorem kX6_part_j48 (D : Nat)   (hD : 68 ≤ D) (l2 : Int32)  (σ : z_Mem) : z_Go YM mX6_part (D + 1) z_i 48 [some (zR 0), none, some (zI l2)] [] σ (fX6_part_j48 l2 σ) := by
  rw [fX6_part_j48]
  refine z_aload_n (pc := 48) dX6_part_48 rfl rfl ?_
  refine gfX6_26 (pc := 49) dX6_part_49 ym_0 w_14_15 rfl ?_
  refine z_if_ne (tgt := 59) (pc := 52) dX6_part_52 (by decide) (fun _ => ?_) (fun _ => ?_)
  · refine z_iload_n (pc := 59) dX6_part_59 rfl rfl ?_
    exact z_iret (pc := 60) dX6_part_60 rfl rfl
  · refine z_aload_n (pc := 55) dX6_part_55 rfl rfl ?_
    refine z_V0u (pc := 56) dX6_part_56 lVX6_181 ym_0 rfl (Nat.le_of_ble_eq_true rfl) (kX6_next σ D (by omega)) (fun _ s3 => ?_)
    refine z_iload_n (pc := 59) dX6_part_59 rfl rfl ?_
    exact z_iret (pc := 60) dX6_part_60 rfl rfl
def fX6_part_j34  (t0 : Int32) (σ : z_Mem) : Option (Int32 × z_Mem) :=
  z_bd (fX6_isSign (59 : Int32) σ) (fun r2 s2 => if r2 = 0 then (z_bd (fX6_fail s2) (fun _ s4 => fX6_part_j48 t0 s4)) else (fX6_part_j48 t0 s2))
theorem kX6_part_j34 (D : Nat)   (hD : 68 ≤ D) (t0 : Int32)  (σ : z_Mem) : z_Go YM mX6_part (D + 1) z_i 34 [some (zR 0), none, none] [zI t0] σ (fX6_part_j34 t0 σ) := by
  rw [fX6_part_j34]
  refine z_istore_n (pc := 34) dX6_part_34 rfl (Nat.le_of_ble_eq_true rfl) (z_so3_2 rfl) ?_
  refine z_aload_n (pc := 35) dX6_part_35 rfl rfl ?_
  refine z_bipush_59 (pc := 36) dX6_part_36 ?_
  refine z_V1i (pc := 38) dX6_part_38 lVX6_206 ym_0 rfl (Nat.le_of_ble_eq_true rfl) (kX6_isSign (59 : Int32) σ D (by omega)) (fun r2 s2 => ?_)
  refine z_if_ne (tgt := 48) (pc := 41) dX6_part_41 (by decide) (fun _ => ?_) (fun _ => ?_)
  · exact kX6_part_j48 D  hD t0 s2
  · refine z_aload_n (pc := 44) dX6_part_44 rfl rfl ?_
    refine z_V0u (pc := 45) dX6_part_45 lVX6_178 ym_0 rfl (Nat.le_of_ble_eq_true rfl) (kX6_fail s2 D (by omega)) (fun _ s4 => ?_)
    exact kX6_part_j48 D  hD t0 s4
def fX6_part_j19   (σ : z_Mem) : Option (Int32 × z_Mem) :=
  if σ.1 0 26 = 0 then (z_bd (fX6_either σ) (fun r1 s1 => fX6_part_j34 r1 s1)) else (fX6_part_j34 (0 : Int32) σ)
theorem kX6_part_j19 (D : Nat)   (hD : 68 ≤ D)   (σ : z_Mem) : z_Go YM mX6_part (D + 1) z_i 19 [some (zR 0), none, none] [] σ (fX6_part_j19 σ) := by
  rw [fX6_part_j19]
  refine z_aload_n (pc := 19) dX6_part_19 rfl rfl ?_
  refine gfX6_26 (pc := 20) dX6_part_20 ym_0 w_14_15 rfl ?_
  refine z_if_eq (tgt := 30) (pc := 23) dX6_part_23 (by decide) (fun _ => ?_) (fun _ => ?_)
  · refine z_aload_n (pc := 30) dX6_part_30 rfl rfl ?_
    refine z_V0i (pc := 31) dX6_part_31 lVX6_217 ym_0 rfl (Nat.le_of_ble_eq_true rfl) (kX6_either σ D (by omega)) (fun r1 s1 => ?_)
    exact kX6_part_j34 D  hD r1 s1
  · refine z_iconst_0 (pc := 26) dX6_part_26 ?_
    refine z_goto (tgt := 34) (pc := 27) dX6_part_27 (by decide) ?_
    exact kX6_part_j34 D  hD (0 : Int32) σ
def fX6_part_j8   (σ : z_Mem) : Option (Int32 × z_Mem) :=
  if σ.1 0 26 = 0 then (z_bd (fX6_next σ) (fun _ s5 => fX6_part_j19 s5)) else (fX6_part_j19 σ)
theorem kX6_part_j8 (D : Nat)   (hD : 68 ≤ D)   (σ : z_Mem) : z_Go YM mX6_part (D + 1) z_i 8 [some (zR 0), none, none] [] σ (fX6_part_j8 σ) := by
  rw [fX6_part_j8]
  refine z_aload_n (pc := 8) dX6_part_8 rfl rfl ?_
  refine gfX6_26 (pc := 9) dX6_part_9 ym_0 w_14_15 rfl ?_
  refine z_if_ne (tgt := 19) (pc := 12) dX6_part_12 (by decide) (fun _ => ?_) (fun _ => ?_)
  · exact kX6_part_j19 D  hD  σ
  · refine z_aload_n (pc := 15) dX6_part_15 rfl rfl ?_
    refine z_V0u (pc := 16) dX6_part_16 lVX6_181 ym_0 rfl (Nat.le_of_ble_eq_true rfl) (kX6_next σ D (by omega)) (fun _ s5 => ?_)
    exact kX6_part_j19 D  hD  s5
def fX6_part  (a1 : Int32) (σ : z_Mem) : Option (Int32 × z_Mem) :=
  if a1 = 0 then (z_bd (fX6_fail σ) (fun _ s6 => fX6_part_j8 s6)) else (fX6_part_j8 σ)
theorem kX6_part   (a1 : Int32) (σ : z_Mem) (D : Nat) (hD : 69 ≤ D) : z_Call YM mX6_part D z_i [zR 0, zI a1] σ (fX6_part a1 σ) := by
  obtain ⟨D, rfl⟩ : ∃ E, D = E + 1 := ⟨D - 1, by omega⟩
  replace hD : 68 ≤ D := by omega
  refine z_entry (lv := [some (zR 0), some (zI a1), none]) (by decide) rfl (Nat.le_of_ble_eq_true rfl) rfl ?_
  rw [fX6_part]
  refine z_iload_n (pc := 0) dX6_part_0 rfl rfl ?_
  refine z_if_ne (tgt := 8) (pc := 1) dX6_part_1 (by decide) (fun _ => ?_) (fun _ => ?_)
  · exact z_weak (lv' := [some (zR 0), none, none]) (z_sub_ok ⟨rfl, trivial⟩) (kX6_part_j8 D  hD  σ)
  · refine z_aload_n (pc := 4) dX6_part_4 rfl rfl ?_
    refine z_V0u (pc := 5) dX6_part_5 lVX6_178 ym_0 rfl (Nat.le_of_ble_eq_true rfl) (kX6_fail σ D (by omega)) (fun _ s6 => ?_)
    exact z_weak (lv' := [some (zR 0), none, none]) (z_sub_ok ⟨rfl, trivial⟩) (kX6_part_j8 D  hD  s6)
def fX6_read_j146  (l2 : Int32) (l3 : Int32) (l4 : Int32) (l5 : Int32) (σ : z_Mem) : Option (Int32 × z_Mem) :=
  if l2 = 0 then (some (l3, σ)) else (if l2 = (1 : Int32) then (some (l4, σ)) else (some (l5, σ)))
theorem kX6_read_j146 (D : Nat)   (hD : 69 ≤ D) (l2 : Int32) (l3 : Int32) (l4 : Int32) (l5 : Int32)  (σ : z_Mem) : z_Go YM mX6_read (D + 1) z_i 146 [none, none, some (zI l2), some (zI l3), some (zI l4), some (zI l5)] [] σ (fX6_read_j146 l2 l3 l4 l5 σ) := by
  rw [fX6_read_j146]
  refine z_iload_n (pc := 146) dX6_read_146 rfl rfl ?_
  refine z_if_ne (tgt := 154) (pc := 147) dX6_read_147 (by decide) (fun _ => ?_) (fun _ => ?_)
  · refine z_iload_n (pc := 154) dX6_read_154 rfl rfl ?_
    refine z_iconst_1 (pc := 155) dX6_read_155 ?_
    refine z_icmp_ne (tgt := 164) (pc := 156) dX6_read_156 (by decide) (fun _ => ?_) (fun _ => ?_)
    · refine z_iload (pc := 164) dX6_read_164 rfl ?_
      exact z_iret (pc := 166) dX6_read_166 rfl rfl
    · refine z_iload (pc := 159) dX6_read_159 rfl ?_
      refine z_goto (tgt := 166) (pc := 161) dX6_read_161 (by decide) ?_
      exact z_iret (pc := 166) dX6_read_166 rfl rfl
  · refine z_iload_n (pc := 150) dX6_read_150 rfl rfl ?_
    refine z_goto (tgt := 166) (pc := 151) dX6_read_151 (by decide) ?_
    exact z_iret (pc := 166) dX6_read_166 rfl rfl
def fX6_read_j126  (l2 : Int32) (l3 : Int32) (l4 : Int32) (t0 : Int32) (σ : z_Mem) : Option (Int32 × z_Mem) :=
  if σ.1 0 26 = 0 then (if σ.1 0 22 = 0 then (fX6_read_j146 l2 l3 l4 t0 σ) else (z_bd (fX6_fail σ) (fun _ s13 => fX6_read_j146 l2 l3 l4 t0 s13))) else (fX6_read_j146 l2 l3 l4 t0 σ)
theorem kX6_read_j126 (D : Nat)   (hD : 69 ≤ D) (l2 : Int32) (l3 : Int32) (l4 : Int32) (t0 : Int32)  (σ : z_Mem) : z_Go YM mX6_read (D + 1) z_i 126 [some (zR 0), none, some (zI l2), some (zI l3), some (zI l4), none] [zI t0] σ (fX6_read_j126 l2 l3 l4 t0 σ) := by
  rw [fX6_read_j126]
  refine z_istore (pc := 126) dX6_read_126 (Nat.le_of_ble_eq_true rfl) (z_so6_5 rfl) ?_
  refine z_aload_n (pc := 128) dX6_read_128 rfl rfl ?_
  refine gfX6_26 (pc := 129) dX6_read_129 ym_0 w_14_15 rfl ?_
  refine z_if_ne (tgt := 146) (pc := 132) dX6_read_132 (by decide) (fun _ => ?_) (fun _ => ?_)
  · exact z_weak (lv' := [none, none, some (zI l2), some (zI l3), some (zI l4), some (zI t0)]) (z_sub_ok ⟨rfl, rfl, rfl, rfl, trivial⟩) (kX6_read_j146 D  hD l2 l3 l4 t0 σ)
  · refine z_aload_n (pc := 135) dX6_read_135 rfl rfl ?_
    refine gfX6_22 (pc := 136) dX6_read_136 ym_0 w_14_16 rfl ?_
    refine z_if_eq (tgt := 146) (pc := 139) dX6_read_139 (by decide) (fun _ => ?_) (fun _ => ?_)
    · exact z_weak (lv' := [none, none, some (zI l2), some (zI l3), some (zI l4), some (zI t0)]) (z_sub_ok ⟨rfl, rfl, rfl, rfl, trivial⟩) (kX6_read_j146 D  hD l2 l3 l4 t0 σ)
    · refine z_aload_n (pc := 142) dX6_read_142 rfl rfl ?_
      refine z_V0u (pc := 143) dX6_read_143 lVX6_178 ym_0 rfl (Nat.le_of_ble_eq_true rfl) (kX6_fail σ D (by omega)) (fun _ s13 => ?_)
      exact z_weak (lv' := [none, none, some (zI l2), some (zI l3), some (zI l4), some (zI t0)]) (z_sub_ok ⟨rfl, rfl, rfl, rfl, trivial⟩) (kX6_read_j146 D  hD l2 l3 l4 t0 s13)
def fX6_read_j92  (l2 : Int32) (l3 : Int32) (t0 : Int32) (σ : z_Mem) : Option (Int32 × z_Mem) :=
  if σ.1 0 26 = 0 then (z_bd (fX6_isWord (116 : Int32) (105 : Int32) (114 : Int32) (101 : Int32) (115 : Int32) (0 : Int32) (0 : Int32) (0 : Int32) σ) (fun r11 s11 => z_bd (fX6_part r11 s11) (fun r12 s12 => fX6_read_j126 l2 l3 t0 r12 s12))) else (fX6_read_j126 l2 l3 t0 (0 : Int32) σ)
theorem kX6_read_j92 (D : Nat)   (hD : 69 ≤ D) (l2 : Int32) (l3 : Int32) (t0 : Int32)  (σ : z_Mem) : z_Go YM mX6_read (D + 1) z_i 92 [some (zR 0), none, some (zI l2), some (zI l3), none, none] [zI t0] σ (fX6_read_j92 l2 l3 t0 σ) := by
  rw [fX6_read_j92]
  refine z_istore (pc := 92) dX6_read_92 (Nat.le_of_ble_eq_true rfl) (z_so6_4 rfl) ?_
  refine z_aload_n (pc := 94) dX6_read_94 rfl rfl ?_
  refine gfX6_26 (pc := 95) dX6_read_95 ym_0 w_14_15 rfl ?_
  refine z_if_eq (tgt := 105) (pc := 98) dX6_read_98 (by decide) (fun _ => ?_) (fun _ => ?_)
  · refine z_aload_n (pc := 105) dX6_read_105 rfl rfl ?_
    refine z_aload_n (pc := 106) dX6_read_106 rfl rfl ?_
    refine z_bipush_116 (pc := 107) dX6_read_107 ?_
    refine z_bipush_105 (pc := 109) dX6_read_109 ?_
    refine z_bipush_114 (pc := 111) dX6_read_111 ?_
    refine z_bipush_101 (pc := 113) dX6_read_113 ?_
    refine z_bipush_115 (pc := 115) dX6_read_115 ?_
    refine z_iconst_0 (pc := 117) dX6_read_117 ?_
    refine z_iconst_0 (pc := 118) dX6_read_118 ?_
    refine z_iconst_0 (pc := 119) dX6_read_119 ?_
    refine z_V8i (pc := 120) dX6_read_120 lVX6_184 ym_0 rfl (Nat.le_of_ble_eq_true rfl) (kX6_isWord (116 : Int32) (105 : Int32) (114 : Int32) (101 : Int32) (115 : Int32) (0 : Int32) (0 : Int32) (0 : Int32) σ D (by omega)) (fun r11 s11 => ?_)
    refine z_V1i (pc := 123) dX6_read_123 lVX6_239 ym_0 rfl (Nat.le_of_ble_eq_true rfl) (kX6_part r11 s11 D (by omega)) (fun r12 s12 => ?_)
    exact kX6_read_j126 D  hD l2 l3 t0 r12 s12
  · refine z_iconst_0 (pc := 101) dX6_read_101 ?_
    refine z_goto (tgt := 126) (pc := 102) dX6_read_102 (by decide) ?_
    exact kX6_read_j126 D  hD l2 l3 t0 (0 : Int32) σ
def fX6_read  (a1 : Int32) (a2 : Int32) (σ : z_Mem) : Option (Int32 × z_Mem) :=
  z_st (z_pt σ 0 19 ((160 : Int32) * a1)) (fun s1 => z_gd (z_in a1 6) (z_st (z_pt s1 0 20 (s1.1 2 (z_x a1))) (fun s2 => z_st (z_pt s2 0 21 (0 : Int32)) (fun s3 => z_st (z_pt s3 0 25 (0 : Int32)) (fun s4 => z_st (z_pt s4 0 26 (0 : Int32)) (fun s5 => z_bd (fX6_next s5) (fun _ s6 => z_bd (fX6_isWord (103 : Int32) (114 : Int32) (105 : Int32) (112 : Int32) (115 : Int32) (0 : Int32) (0 : Int32) (0 : Int32) s6) (fun r7 s7 => z_bd (fX6_part r7 s7) (fun r8 s8 => if s8.1 0 26 = 0 then (z_bd (fX6_isWord (104 : Int32) (97 : Int32) (110 : Int32) (100 : Int32) (115 : Int32) (0 : Int32) (0 : Int32) (0 : Int32) s8) (fun r9 s9 => z_bd (fX6_part r9 s9) (fun r10 s10 => fX6_read_j92 a2 r8 r10 s10))) else (fX6_read_j92 a2 r8 (0 : Int32) s8))))))))))
theorem kX6_read   (a1 : Int32) (a2 : Int32) (σ : z_Mem) (D : Nat) (hD : 70 ≤ D) : z_Call YM mX6_read D z_i [zR 0, zI a1, zI a2] σ (fX6_read a1 a2 σ) := by
  obtain ⟨D, rfl⟩ : ∃ E, D = E + 1 := ⟨D - 1, by omega⟩
  replace hD : 69 ≤ D := by omega
  refine z_entry (lv := [some (zR 0), some (zI a1), some (zI a2), none, none, none]) (by decide) rfl (Nat.le_of_ble_eq_true rfl) rfl ?_
  rw [fX6_read]
  refine z_aload_n (pc := 0) dX6_read_0 rfl rfl ?_
  refine z_sipush_160 (pc := 1) dX6_read_1 ?_
  refine z_iload_n (pc := 4) dX6_read_4 rfl rfl ?_
  refine z_imul (pc := 5) dX6_read_5 ?_
  refine pfX6_19 (pc := 6) dX6_read_6 ym_0 w_14_11 rfl ?_
  refine z_let (fun s1 => ?_)
  refine z_aload_n (pc := 9) dX6_read_9 rfl rfl ?_
  refine z_aload_n (pc := 10) dX6_read_10 rfl rfl ?_
  refine gfX6_2 (pc := 11) dX6_read_11 ym_0 w_10_8 rfl ?_
  refine z_iload_n (pc := 14) dX6_read_14 rfl rfl ?_
  refine z_iald (pc := 15) dX6_read_15 ym_2 ?_
  refine pfX6_20 (pc := 16) dX6_read_16 ym_0 w_14_12 rfl ?_
  refine z_let (fun s2 => ?_)
  refine z_aload_n (pc := 19) dX6_read_19 rfl rfl ?_
  refine z_iconst_0 (pc := 20) dX6_read_20 ?_
  refine pfX6_21 (pc := 21) dX6_read_21 ym_0 w_14_13 rfl ?_
  refine z_let (fun s3 => ?_)
  refine z_aload_n (pc := 24) dX6_read_24 rfl rfl ?_
  refine z_iconst_0 (pc := 25) dX6_read_25 ?_
  refine pfX6_25 (pc := 26) dX6_read_26 ym_0 w_14_14 rfl ?_
  refine z_let (fun s4 => ?_)
  refine z_aload_n (pc := 29) dX6_read_29 rfl rfl ?_
  refine z_iconst_0 (pc := 30) dX6_read_30 ?_
  refine pfX6_26 (pc := 31) dX6_read_31 ym_0 w_14_15 (by decide) (by decide) rfl ?_
  refine z_let (fun s5 => ?_)
  refine z_aload_n (pc := 34) dX6_read_34 rfl rfl ?_
  refine z_V0u (pc := 35) dX6_read_35 lVX6_181 ym_0 rfl (Nat.le_of_ble_eq_true rfl) (kX6_next s5 D (by omega)) (fun _ s6 => ?_)
  refine z_aload_n (pc := 38) dX6_read_38 rfl rfl ?_
  refine z_aload_n (pc := 39) dX6_read_39 rfl rfl ?_
  refine z_bipush_103 (pc := 40) dX6_read_40 ?_
  refine z_bipush_114 (pc := 42) dX6_read_42 ?_
  refine z_bipush_105 (pc := 44) dX6_read_44 ?_
  refine z_bipush_112 (pc := 46) dX6_read_46 ?_
  refine z_bipush_115 (pc := 48) dX6_read_48 ?_
  refine z_iconst_0 (pc := 50) dX6_read_50 ?_
  refine z_iconst_0 (pc := 51) dX6_read_51 ?_
  refine z_iconst_0 (pc := 52) dX6_read_52 ?_
  refine z_V8i (pc := 53) dX6_read_53 lVX6_184 ym_0 rfl (Nat.le_of_ble_eq_true rfl) (kX6_isWord (103 : Int32) (114 : Int32) (105 : Int32) (112 : Int32) (115 : Int32) (0 : Int32) (0 : Int32) (0 : Int32) s6 D (by omega)) (fun r7 s7 => ?_)
  refine z_V1i (pc := 56) dX6_read_56 lVX6_239 ym_0 rfl (Nat.le_of_ble_eq_true rfl) (kX6_part r7 s7 D (by omega)) (fun r8 s8 => ?_)
  refine z_istore_n (pc := 59) dX6_read_59 rfl (Nat.le_of_ble_eq_true rfl) (z_so6_3 rfl) ?_
  refine z_aload_n (pc := 60) dX6_read_60 rfl rfl ?_
  refine gfX6_26 (pc := 61) dX6_read_61 ym_0 w_14_15 rfl ?_
  refine z_if_eq (tgt := 71) (pc := 64) dX6_read_64 (by decide) (fun _ => ?_) (fun _ => ?_)
  · refine z_aload_n (pc := 71) dX6_read_71 rfl rfl ?_
    refine z_aload_n (pc := 72) dX6_read_72 rfl rfl ?_
    refine z_bipush_104 (pc := 73) dX6_read_73 ?_
    refine z_bipush_97 (pc := 75) dX6_read_75 ?_
    refine z_bipush_110 (pc := 77) dX6_read_77 ?_
    refine z_bipush_100 (pc := 79) dX6_read_79 ?_
    refine z_bipush_115 (pc := 81) dX6_read_81 ?_
    refine z_iconst_0 (pc := 83) dX6_read_83 ?_
    refine z_iconst_0 (pc := 84) dX6_read_84 ?_
    refine z_iconst_0 (pc := 85) dX6_read_85 ?_
    refine z_V8i (pc := 86) dX6_read_86 lVX6_184 ym_0 rfl (Nat.le_of_ble_eq_true rfl) (kX6_isWord (104 : Int32) (97 : Int32) (110 : Int32) (100 : Int32) (115 : Int32) (0 : Int32) (0 : Int32) (0 : Int32) s8 D (by omega)) (fun r9 s9 => ?_)
    refine z_V1i (pc := 89) dX6_read_89 lVX6_239 ym_0 rfl (Nat.le_of_ble_eq_true rfl) (kX6_part r9 s9 D (by omega)) (fun r10 s10 => ?_)
    exact z_weak (lv' := [some (zR 0), none, some (zI a2), some (zI r8), none, none]) (z_sub_ok ⟨rfl, rfl, rfl, trivial⟩) (kX6_read_j92 D  hD a2 r8 r10 s10)
  · refine z_iconst_0 (pc := 67) dX6_read_67 ?_
    refine z_goto (tgt := 92) (pc := 68) dX6_read_68 (by decide) ?_
    exact z_weak (lv' := [some (zR 0), none, some (zI a2), some (zI r8), none, none]) (z_sub_ok ⟨rfl, rfl, rfl, trivial⟩) (kX6_read_j92 D  hD a2 r8 (0 : Int32) s8)
def fX6_text_14  : Nat → Int32 → z_Mem → Option (Int32 × z_Mem)
  | 0, _, _ => none
  | q + 1, l1, σ => if σ.1 0 6 ≤ l1 then (z_gd (z_in (σ.1 0 3) 6) (z_st (z_pt σ 2 (z_x (σ.1 0 3)) (σ.1 0 6)) (fun s1 => z_st (z_pt s1 0 6 (0 : Int32)) (fun s2 => z_bd (fX6_read (s2.1 0 3) (0 : Int32) s2) (fun r3 s3 => if s3.1 0 26 = 0 then (z_st (z_pt s3 0 3 ((s3.1 0 3) + (1 : Int32))) (fun s4 => some ((s4.1 0 3) - (1 : Int32), s4))) else (some ((-100 : Int32) - (s3.1 0 27), s3))))))) else (z_gd (z_in l1 160) (z_gd (z_in (((160 : Int32) * (σ.1 0 3)) + l1) 960) (z_st (z_pt σ 1 (z_x (((160 : Int32) * (σ.1 0 3)) + l1)) (σ.1 3 (z_x l1))) (fun s5 => fX6_text_14  q (l1 + 1) s5))))
theorem kX6_text_14 (D : Nat)   (hD : 70 ≤ D) : ∀ (q : Nat) (l1 : Int32)  (σ : z_Mem), z_Go YM mX6_text (D + 1) z_i 14 [some (zR 0), some (zI l1)] [] σ (fX6_text_14 q l1 σ) := by
  intro q
  induction q with
  | zero => intros; exact z_none
  | succ q ih =>
    intro l1 σ
    rw [fX6_text_14]
    refine z_iload_n (pc := 14) dX6_text_14 rfl rfl ?_
    refine z_aload_n (pc := 15) dX6_text_15 rfl rfl ?_
    refine gfX6_6 (pc := 16) dX6_text_16 ym_0 w_23_5 rfl ?_
    refine z_icmp_ge (tgt := 49) (pc := 19) dX6_text_19 (by decide) (fun _ => ?_) (fun _ => ?_)
    · refine z_aload_n (pc := 49) dX6_text_49 rfl rfl ?_
      refine gfX6_2 (pc := 50) dX6_text_50 ym_0 w_10_8 rfl ?_
      refine z_aload_n (pc := 53) dX6_text_53 rfl rfl ?_
      refine gfX6_3 (pc := 54) dX6_text_54 ym_0 w_10_23 rfl ?_
      refine z_aload_n (pc := 57) dX6_text_57 rfl rfl ?_
      refine gfX6_6 (pc := 58) dX6_text_58 ym_0 w_23_5 rfl ?_
      refine z_iast (pc := 61) dX6_text_61 ym_2 ?_
      refine z_let (fun s1 => ?_)
      refine z_aload_n (pc := 62) dX6_text_62 rfl rfl ?_
      refine z_iconst_0 (pc := 63) dX6_text_63 ?_
      refine pfX6_6 (pc := 64) dX6_text_64 ym_0 w_23_5 rfl ?_
      refine z_let (fun s2 => ?_)
      refine z_aload_n (pc := 67) dX6_text_67 rfl rfl ?_
      refine z_aload_n (pc := 68) dX6_text_68 rfl rfl ?_
      refine gfX6_3 (pc := 69) dX6_text_69 ym_0 w_10_23 rfl ?_
      refine z_iconst_0 (pc := 72) dX6_text_72 ?_
      refine z_V2i (pc := 73) dX6_text_73 lVX6_243 ym_0 rfl (Nat.le_of_ble_eq_true rfl) (kX6_read (s2.1 0 3) (0 : Int32) s2 D (by omega)) (fun r3 s3 => ?_)
      refine z_istore_n (pc := 76) dX6_text_76 rfl (Nat.le_of_ble_eq_true rfl) (z_so2_1 rfl) ?_
      refine z_aload_n (pc := 77) dX6_text_77 rfl rfl ?_
      refine gfX6_26 (pc := 78) dX6_text_78 ym_0 w_14_15 rfl ?_
      refine z_if_eq (tgt := 92) (pc := 81) dX6_text_81 (by decide) (fun _ => ?_) (fun _ => ?_)
      · refine z_aload_n (pc := 92) dX6_text_92 rfl rfl ?_
        refine z_dup (pc := 93) dX6_text_93 rfl ?_
        refine gfX6_3 (pc := 94) dX6_text_94 ym_0 w_10_23 rfl ?_
        refine z_iconst_1 (pc := 97) dX6_text_97 ?_
        refine z_iadd (pc := 98) dX6_text_98 ?_
        refine pfX6_3 (pc := 99) dX6_text_99 ym_0 w_10_23 rfl ?_
        refine z_let (fun s4 => ?_)
        refine z_aload_n (pc := 102) dX6_text_102 rfl rfl ?_
        refine gfX6_3 (pc := 103) dX6_text_103 ym_0 w_10_23 rfl ?_
        refine z_iconst_1 (pc := 106) dX6_text_106 ?_
        refine z_isub (pc := 107) dX6_text_107 ?_
        exact z_iret (pc := 108) dX6_text_108 rfl rfl
      · refine z_bipush_m100 (pc := 84) dX6_text_84 ?_
        refine z_aload_n (pc := 86) dX6_text_86 rfl rfl ?_
        refine gfX6_27 (pc := 87) dX6_text_87 ym_0 w_16_0 rfl ?_
        refine z_isub (pc := 90) dX6_text_90 ?_
        exact z_iret (pc := 91) dX6_text_91 rfl rfl
    · refine z_aload_n (pc := 22) dX6_text_22 rfl rfl ?_
      refine gfX6_1 (pc := 23) dX6_text_23 ym_0 w_10_7 rfl ?_
      refine z_sipush_160 (pc := 26) dX6_text_26 ?_
      refine z_aload_n (pc := 29) dX6_text_29 rfl rfl ?_
      refine gfX6_3 (pc := 30) dX6_text_30 ym_0 w_10_23 rfl ?_
      refine z_imul (pc := 33) dX6_text_33 ?_
      refine z_iload_n (pc := 34) dX6_text_34 rfl rfl ?_
      refine z_iadd (pc := 35) dX6_text_35 ?_
      refine z_aload_n (pc := 36) dX6_text_36 rfl rfl ?_
      refine gfX6_5 (pc := 37) dX6_text_37 ym_0 w_10_9 rfl ?_
      refine z_iload_n (pc := 40) dX6_text_40 rfl rfl ?_
      refine z_iald (pc := 41) dX6_text_41 ym_3 ?_
      refine z_iast (pc := 42) dX6_text_42 ym_1 ?_
      refine z_let (fun s5 => ?_)
      refine z_iinc (y := 1) (pc := 43) dX6_text_43 rfl (by decide) (Nat.le_of_ble_eq_true rfl) (z_so2_1 rfl) ?_
      refine z_goto (tgt := 14) (pc := 46) dX6_text_46 (by decide) ?_
      exact ih (l1 + 1) s5
def fX6_text   (σ : z_Mem) : Option (Int32 × z_Mem) :=
  if σ.1 0 3 = (6 : Int32) then (some ((-4 : Int32), σ)) else (fX6_text_14 z_FU (0 : Int32) σ)
theorem kX6_text    (σ : z_Mem) (D : Nat) (hD : 71 ≤ D) : z_Call YM mX6_text D z_i [zR 0] σ (fX6_text σ) := by
  obtain ⟨D, rfl⟩ : ∃ E, D = E + 1 := ⟨D - 1, by omega⟩
  replace hD : 70 ≤ D := by omega
  refine z_entry (lv := [some (zR 0), none]) (by decide) rfl (Nat.le_of_ble_eq_true rfl) rfl ?_
  rw [fX6_text]
  refine z_aload_n (pc := 0) dX6_text_0 rfl rfl ?_
  refine gfX6_3 (pc := 1) dX6_text_1 ym_0 w_10_23 rfl ?_
  refine z_bipush_6 (pc := 4) dX6_text_4 ?_
  refine z_icmp_ne (tgt := 12) (pc := 6) dX6_text_6 (by decide) (fun _ => ?_) (fun _ => ?_)
  · refine z_iconst_0 (pc := 12) dX6_text_12 ?_
    refine z_istore_n (pc := 13) dX6_text_13 rfl (Nat.le_of_ble_eq_true rfl) (z_so2_1 rfl) ?_
    exact kX6_text_14 D  hD z_FU (0 : Int32) σ
  · refine z_bipush_m4 (pc := 9) dX6_text_9 ?_
    exact z_iret (pc := 11) dX6_text_11 rfl rfl
def fX6_force  (a1 : Int32) (σ : z_Mem) : Option (Int32 × z_Mem) :=
  z_bd (fX6_in a1.toInt64 (0 : Int64) (((σ.1 0 3) - (1 : Int32)).toInt64) σ) (fun r1 s1 => if r1 = 0 then (some ((-2 : Int32), s1)) else (z_st (z_pt s1 0 4 a1) (fun s2 => some (s1.1 0 4, s2))))
theorem kX6_force   (a1 : Int32) (σ : z_Mem) (D : Nat) (hD : 2 ≤ D) : z_Call YM mX6_force D z_i [zR 0, zI a1] σ (fX6_force a1 σ) := by
  obtain ⟨D, rfl⟩ : ∃ E, D = E + 1 := ⟨D - 1, by omega⟩
  replace hD : 1 ≤ D := by omega
  refine z_entry (lv := [some (zR 0), some (zI a1), none]) (by decide) rfl (Nat.le_of_ble_eq_true rfl) rfl ?_
  rw [fX6_force]
  refine z_iload_n (pc := 0) dX6_force_0 rfl rfl ?_
  refine z_i2l (pc := 1) dX6_force_1 ?_
  refine z_lconst (v := 0) (pc := 2) dX6_force_2 rfl ?_
  refine z_aload_n (pc := 3) dX6_force_3 rfl rfl ?_
  refine gfX6_3 (pc := 4) dX6_force_4 ym_0 w_10_23 rfl ?_
  refine z_iconst_1 (pc := 7) dX6_force_7 ?_
  refine z_isub (pc := 8) dX6_force_8 ?_
  refine z_i2l (pc := 9) dX6_force_9 ?_
  refine z_S3i (pc := 10) dX6_force_10 lSX6_70 (Nat.le_of_ble_eq_true rfl) (kX6_in a1.toInt64 (0 : Int64) (((σ.1 0 3) - (1 : Int32)).toInt64) σ D (by omega)) (fun r1 s1 => ?_)
  refine z_if_ne (tgt := 19) (pc := 13) dX6_force_13 (by decide) (fun _ => ?_) (fun _ => ?_)
  · refine z_aload_n (pc := 19) dX6_force_19 rfl rfl ?_
    refine gfX6_4 (pc := 20) dX6_force_20 ym_0 w_14_6 rfl ?_
    refine z_istore_n (pc := 23) dX6_force_23 rfl (Nat.le_of_ble_eq_true rfl) (z_so3_2 rfl) ?_
    refine z_aload_n (pc := 24) dX6_force_24 rfl rfl ?_
    refine z_iload_n (pc := 25) dX6_force_25 rfl rfl ?_
    refine pfX6_4 (pc := 26) dX6_force_26 ym_0 w_14_6 rfl ?_
    refine z_let (fun s2 => ?_)
    refine z_iload_n (pc := 29) dX6_force_29 rfl rfl ?_
    exact z_iret (pc := 30) dX6_force_30 rfl rfl
  · refine z_bipush_m2 (pc := 16) dX6_force_16 ?_
    exact z_iret (pc := 18) dX6_force_18 rfl rfl
def fX6_says_j34  (l1 : Int32) (l2 : Int32) (t0 : Int32) (σ : z_Mem) : Option (Int32 × z_Mem) :=
  z_st (z_pt σ 0 14 t0) (fun s2 => z_gd (z_in ((3 : Int32) * l2) 18) (z_st (z_pt s2 0 15 (s2.1 4 (z_x ((3 : Int32) * l2)))) (fun s3 => z_st (z_pt s3 0 16 (s3.1 0 7)) (fun s4 => z_st (z_pt s4 0 17 (s4.1 0 8)) (fun s5 => z_st (z_pt s5 0 18 (s5.1 0 12)) (fun s6 => z_bd (fX6_read (s6.1 0 4) l1 s6) (fun r7 s7 => z_bd (fX6_within r7 (0 : Int32) (99 : Int32) s7) (fun r8 s8 => some (r8, s8)))))))))
theorem kX6_says_j34 (D : Nat)   (hD : 70 ≤ D) (l1 : Int32) (l2 : Int32) (t0 : Int32)  (σ : z_Mem) : z_Go YM mX6_says (D + 1) z_i 34 [some (zR 0), some (zI l1), some (zI l2), none] [zI t0, zR 0] σ (fX6_says_j34 l1 l2 t0 σ) := by
  rw [fX6_says_j34]
  refine pfX6_14 (pc := 34) dX6_says_34 ym_0 w_14_1 rfl ?_
  refine z_let (fun s2 => ?_)
  refine z_aload_n (pc := 37) dX6_says_37 rfl rfl ?_
  refine z_aload_n (pc := 38) dX6_says_38 rfl rfl ?_
  refine gfX6_9 (pc := 39) dX6_says_39 ym_0 w_10_10 rfl ?_
  refine z_iconst_3 (pc := 42) dX6_says_42 ?_
  refine z_iload_n (pc := 43) dX6_says_43 rfl rfl ?_
  refine z_imul (pc := 44) dX6_says_44 ?_
  refine z_iald (pc := 45) dX6_says_45 ym_4 ?_
  refine pfX6_15 (pc := 46) dX6_says_46 ym_0 w_14_2 rfl ?_
  refine z_let (fun s3 => ?_)
  refine z_aload_n (pc := 49) dX6_says_49 rfl rfl ?_
  refine z_aload_n (pc := 50) dX6_says_50 rfl rfl ?_
  refine gfX6_7 (pc := 51) dX6_says_51 ym_0 w_13_10 rfl ?_
  refine pfX6_16 (pc := 54) dX6_says_54 ym_0 w_14_3 rfl ?_
  refine z_let (fun s4 => ?_)
  refine z_aload_n (pc := 57) dX6_says_57 rfl rfl ?_
  refine z_aload_n (pc := 58) dX6_says_58 rfl rfl ?_
  refine gfX6_8 (pc := 59) dX6_says_59 ym_0 w_13_11 rfl ?_
  refine pfX6_17 (pc := 62) dX6_says_62 ym_0 w_14_4 rfl ?_
  refine z_let (fun s5 => ?_)
  refine z_aload_n (pc := 65) dX6_says_65 rfl rfl ?_
  refine z_aload_n (pc := 66) dX6_says_66 rfl rfl ?_
  refine gfX6_12 (pc := 67) dX6_says_67 ym_0 w_12_16 rfl ?_
  refine pfX6_18 (pc := 70) dX6_says_70 ym_0 w_14_5 rfl ?_
  refine z_let (fun s6 => ?_)
  refine z_aload_n (pc := 73) dX6_says_73 rfl rfl ?_
  refine z_aload_n (pc := 74) dX6_says_74 rfl rfl ?_
  refine gfX6_4 (pc := 75) dX6_says_75 ym_0 w_14_6 rfl ?_
  refine z_iload_n (pc := 78) dX6_says_78 rfl rfl ?_
  refine z_V2i (pc := 79) dX6_says_79 lVX6_243 ym_0 rfl (Nat.le_of_ble_eq_true rfl) (kX6_read (s6.1 0 4) l1 s6 D (by omega)) (fun r7 s7 => ?_)
  refine z_iconst_0 (pc := 82) dX6_says_82 ?_
  refine z_bipush_99 (pc := 83) dX6_says_83 ?_
  refine z_S3i (pc := 85) dX6_says_85 lSX6_246 (Nat.le_of_ble_eq_true rfl) (kX6_within r7 (0 : Int32) (99 : Int32) s7 D (by omega)) (fun r8 s8 => ?_)
  exact z_iret (pc := 88) dX6_says_88 rfl rfl
def fX6_says  (a1 : Int32) (a2 : Int32) (a3 : Int32) (σ : z_Mem) : Option (Int32 × z_Mem) :=
  z_gd (z_in (((3 : Int32) * a2) + (1 : Int32)) 18) (z_st (z_pt σ 0 13 (σ.1 4 (z_x (((3 : Int32) * a2) + (1 : Int32))))) (fun s1 => if a3 = (-1 : Int32) then (fX6_says_j34 a1 a2 (0 : Int32) s1) else (z_gd (z_in (((3 : Int32) * a3) + (1 : Int32)) 18) (fX6_says_j34 a1 a2 (s1.1 4 (z_x (((3 : Int32) * a3) + (1 : Int32)))) s1))))
theorem kX6_says   (a1 : Int32) (a2 : Int32) (a3 : Int32) (σ : z_Mem) (D : Nat) (hD : 71 ≤ D) : z_Call YM mX6_says D z_i [zR 0, zI a1, zI a2, zI a3] σ (fX6_says a1 a2 a3 σ) := by
  obtain ⟨D, rfl⟩ : ∃ E, D = E + 1 := ⟨D - 1, by omega⟩
  replace hD : 70 ≤ D := by omega
  refine z_entry (lv := [some (zR 0), some (zI a1), some (zI a2), some (zI a3)]) (by decide) rfl (Nat.le_of_ble_eq_true rfl) rfl ?_
  rw [fX6_says]
  refine z_aload_n (pc := 0) dX6_says_0 rfl rfl ?_
  refine z_aload_n (pc := 1) dX6_says_1 rfl rfl ?_
  refine gfX6_9 (pc := 2) dX6_says_2 ym_0 w_10_10 rfl ?_
  refine z_iconst_3 (pc := 5) dX6_says_5 ?_
  refine z_iload_n (pc := 6) dX6_says_6 rfl rfl ?_
  refine z_imul (pc := 7) dX6_says_7 ?_
  refine z_iconst_1 (pc := 8) dX6_says_8 ?_
  refine z_iadd (pc := 9) dX6_says_9 ?_
  refine z_iald (pc := 10) dX6_says_10 ym_4 ?_
  refine pfX6_13 (pc := 11) dX6_says_11 ym_0 w_14_0 rfl ?_
  refine z_let (fun s1 => ?_)
  refine z_aload_n (pc := 14) dX6_says_14 rfl rfl ?_
  refine z_iload_n (pc := 15) dX6_says_15 rfl rfl ?_
  refine z_iconst_m1 (pc := 16) dX6_says_16 ?_
  refine z_icmp_ne (tgt := 24) (pc := 17) dX6_says_17 (by decide) (fun _ => ?_) (fun _ => ?_)
  · refine z_aload_n (pc := 24) dX6_says_24 rfl rfl ?_
    refine gfX6_9 (pc := 25) dX6_says_25 ym_0 w_10_10 rfl ?_
    refine z_iconst_3 (pc := 28) dX6_says_28 ?_
    refine z_iload_n (pc := 29) dX6_says_29 rfl rfl ?_
    refine z_imul (pc := 30) dX6_says_30 ?_
    refine z_iconst_1 (pc := 31) dX6_says_31 ?_
    refine z_iadd (pc := 32) dX6_says_32 ?_
    refine z_iald (pc := 33) dX6_says_33 ym_4 ?_
    exact z_weak (lv' := [some (zR 0), some (zI a1), some (zI a2), none]) (z_sub_ok ⟨rfl, rfl, rfl, trivial⟩) (kX6_says_j34 D  hD a1 a2 (s1.1 4 (z_x (((3 : Int32) * a3) + (1 : Int32)))) s1)
  · refine z_iconst_0 (pc := 20) dX6_says_20 ?_
    refine z_goto (tgt := 34) (pc := 21) dX6_says_21 (by decide) ?_
    exact z_weak (lv' := [some (zR 0), some (zI a1), some (zI a2), none]) (z_sub_ok ⟨rfl, rfl, rfl, trivial⟩) (kX6_says_j34 D  hD a1 a2 (0 : Int32) s1)
def fX6_gripsOf_j103  (l1 : Int32) (l3 : Int32) (l4 : Int32) (t0 : Int32) (σ : z_Mem) : Option (Int32 × z_Mem) :=
  z_gd (z_in ((3 : Int32) * l1) 18) (if l3 = (1 : Int32) then (z_bd (fX6_within t0 (0 : Int32) (99 : Int32) σ) (fun r2 s2 => some (r2, s2))) else (if l3 = (3 : Int32) then (z_bd (fX6_within t0 (0 : Int32) (99 : Int32) σ) (fun r7 s7 => some (r7, s7))) else (if l3 = (2 : Int32) then (z_bd (fX6_within (l4 - (σ.1 4 (z_x ((3 : Int32) * l1)))) (0 : Int32) (99 : Int32) σ) (fun r6 s6 => some (r6, s6))) else (if l3 = (4 : Int32) then (z_bd (fX6_within (σ.1 0 7) (0 : Int32) (20 : Int32) σ) (fun r4 s4 => z_bd (fX6_within ((l4 - (σ.1 4 (z_x ((3 : Int32) * l1)))) + r4) (0 : Int32) (99 : Int32) s4) (fun r5 s5 => some (r5, s5)))) else (z_bd (fX6_within l4 (0 : Int32) (99 : Int32) σ) (fun r3 s3 => some (r3, s3)))))))
theorem kX6_gripsOf_j103 (D : Nat)   (hD : 71 ≤ D) (l1 : Int32) (l3 : Int32) (l4 : Int32) (t0 : Int32)  (σ : z_Mem) : z_Go YM mX6_gripsOf (D + 1) z_i 103 [some (zR 0), some (zI l1), none, some (zI l3), some (zI l4), none, none, none] [zI t0] σ (fX6_gripsOf_j103 l1 l3 l4 t0 σ) := by
  rw [fX6_gripsOf_j103]
  refine z_istore (pc := 103) dX6_gripsOf_103 (Nat.le_of_ble_eq_true rfl) (z_so8_6 rfl) ?_
  refine z_iload (pc := 105) dX6_gripsOf_105 rfl ?_
  refine z_aload_n (pc := 107) dX6_gripsOf_107 rfl rfl ?_
  refine gfX6_9 (pc := 108) dX6_gripsOf_108 ym_0 w_10_10 rfl ?_
  refine z_iconst_3 (pc := 111) dX6_gripsOf_111 ?_
  refine z_iload_n (pc := 112) dX6_gripsOf_112 rfl rfl ?_
  refine z_imul (pc := 113) dX6_gripsOf_113 ?_
  refine z_iald (pc := 114) dX6_gripsOf_114 ym_4 ?_
  refine z_isub (pc := 115) dX6_gripsOf_115 ?_
  refine z_istore (pc := 116) dX6_gripsOf_116 (Nat.le_of_ble_eq_true rfl) (z_so8_7 rfl) ?_
  refine z_iload_n (pc := 118) dX6_gripsOf_118 rfl rfl ?_
  refine z_iconst_1 (pc := 119) dX6_gripsOf_119 ?_
  refine z_icmp_eq (tgt := 128) (pc := 120) dX6_gripsOf_120 (by decide) (fun _ => ?_) (fun _ => ?_)
  · refine z_iload (pc := 128) dX6_gripsOf_128 rfl ?_
    refine z_goto (tgt := 166) (pc := 130) dX6_gripsOf_130 (by decide) ?_
    refine z_iconst_0 (pc := 166) dX6_gripsOf_166 ?_
    refine z_bipush_99 (pc := 167) dX6_gripsOf_167 ?_
    refine z_S3i (pc := 169) dX6_gripsOf_169 lSX6_246 (Nat.le_of_ble_eq_true rfl) (kX6_within t0 (0 : Int32) (99 : Int32) σ D (by omega)) (fun r2 s2 => ?_)
    exact z_iret (pc := 172) dX6_gripsOf_172 rfl rfl
  · refine z_iload_n (pc := 123) dX6_gripsOf_123 rfl rfl ?_
    refine z_iconst_3 (pc := 124) dX6_gripsOf_124 ?_
    refine z_icmp_ne (tgt := 133) (pc := 125) dX6_gripsOf_125 (by decide) (fun _ => ?_) (fun _ => ?_)
    · refine z_iload_n (pc := 133) dX6_gripsOf_133 rfl rfl ?_
      refine z_iconst_2 (pc := 134) dX6_gripsOf_134 ?_
      refine z_icmp_ne (tgt := 143) (pc := 135) dX6_gripsOf_135 (by decide) (fun _ => ?_) (fun _ => ?_)
      · refine z_iload_n (pc := 143) dX6_gripsOf_143 rfl rfl ?_
        refine z_iconst_4 (pc := 144) dX6_gripsOf_144 ?_
        refine z_icmp_ne (tgt := 164) (pc := 145) dX6_gripsOf_145 (by decide) (fun _ => ?_) (fun _ => ?_)
        · refine z_iload (pc := 164) dX6_gripsOf_164 rfl ?_
          refine z_iconst_0 (pc := 166) dX6_gripsOf_166 ?_
          refine z_bipush_99 (pc := 167) dX6_gripsOf_167 ?_
          refine z_S3i (pc := 169) dX6_gripsOf_169 lSX6_246 (Nat.le_of_ble_eq_true rfl) (kX6_within l4 (0 : Int32) (99 : Int32) σ D (by omega)) (fun r3 s3 => ?_)
          exact z_iret (pc := 172) dX6_gripsOf_172 rfl rfl
        · refine z_iload (pc := 148) dX6_gripsOf_148 rfl ?_
          refine z_aload_n (pc := 150) dX6_gripsOf_150 rfl rfl ?_
          refine gfX6_7 (pc := 151) dX6_gripsOf_151 ym_0 w_13_10 rfl ?_
          refine z_iconst_0 (pc := 154) dX6_gripsOf_154 ?_
          refine z_bipush_20 (pc := 155) dX6_gripsOf_155 ?_
          refine z_S3i (pc := 157) dX6_gripsOf_157 lSX6_246 (Nat.le_of_ble_eq_true rfl) (kX6_within (σ.1 0 7) (0 : Int32) (20 : Int32) σ D (by omega)) (fun r4 s4 => ?_)
          refine z_iadd (pc := 160) dX6_gripsOf_160 ?_
          refine z_goto (tgt := 166) (pc := 161) dX6_gripsOf_161 (by decide) ?_
          refine z_iconst_0 (pc := 166) dX6_gripsOf_166 ?_
          refine z_bipush_99 (pc := 167) dX6_gripsOf_167 ?_
          refine z_S3i (pc := 169) dX6_gripsOf_169 lSX6_246 (Nat.le_of_ble_eq_true rfl) (kX6_within ((l4 - (σ.1 4 (z_x ((3 : Int32) * l1)))) + r4) (0 : Int32) (99 : Int32) s4 D (by omega)) (fun r5 s5 => ?_)
          exact z_iret (pc := 172) dX6_gripsOf_172 rfl rfl
      · refine z_iload (pc := 138) dX6_gripsOf_138 rfl ?_
        refine z_goto (tgt := 166) (pc := 140) dX6_gripsOf_140 (by decide) ?_
        refine z_iconst_0 (pc := 166) dX6_gripsOf_166 ?_
        refine z_bipush_99 (pc := 167) dX6_gripsOf_167 ?_
        refine z_S3i (pc := 169) dX6_gripsOf_169 lSX6_246 (Nat.le_of_ble_eq_true rfl) (kX6_within (l4 - (σ.1 4 (z_x ((3 : Int32) * l1)))) (0 : Int32) (99 : Int32) σ D (by omega)) (fun r6 s6 => ?_)
        exact z_iret (pc := 172) dX6_gripsOf_172 rfl rfl
    · refine z_iload (pc := 128) dX6_gripsOf_128 rfl ?_
      refine z_goto (tgt := 166) (pc := 130) dX6_gripsOf_130 (by decide) ?_
      refine z_iconst_0 (pc := 166) dX6_gripsOf_166 ?_
      refine z_bipush_99 (pc := 167) dX6_gripsOf_167 ?_
      refine z_S3i (pc := 169) dX6_gripsOf_169 lSX6_246 (Nat.le_of_ble_eq_true rfl) (kX6_within t0 (0 : Int32) (99 : Int32) σ D (by omega)) (fun r7 s7 => ?_)
      exact z_iret (pc := 172) dX6_gripsOf_172 rfl rfl
def fX6_gripsOf_j61  (l1 : Int32) (l2 : Int32) (l3 : Int32) (σ : z_Mem) : Option (Int32 × z_Mem) :=
  z_bd (fX6_says (0 : Int32) l1 l2 σ) (fun r1 s1 => z_gd (z_in (((3 : Int32) * l2) + (2 : Int32)) 18) (if s1.1 4 (z_x (((3 : Int32) * l2) + (2 : Int32))) = (1 : Int32) then (fX6_gripsOf_j103 l1 l3 r1 ((2 : Int32) * r1) s1) else (if s1.1 4 (z_x (((3 : Int32) * l2) + (2 : Int32))) = (3 : Int32) then (fX6_gripsOf_j103 l1 l3 r1 ((2 : Int32) * r1) s1) else (fX6_gripsOf_j103 l1 l3 r1 r1 s1))))
theorem kX6_gripsOf_j61 (D : Nat)   (hD : 71 ≤ D) (l1 : Int32) (l2 : Int32) (l3 : Int32)  (σ : z_Mem) : z_Go YM mX6_gripsOf (D + 1) z_i 61 [some (zR 0), some (zI l1), some (zI l2), some (zI l3), none, none, none, none] [] σ (fX6_gripsOf_j61 l1 l2 l3 σ) := by
  rw [fX6_gripsOf_j61]
  refine z_aload_n (pc := 61) dX6_gripsOf_61 rfl rfl ?_
  refine z_iconst_0 (pc := 62) dX6_gripsOf_62 ?_
  refine z_iload_n (pc := 63) dX6_gripsOf_63 rfl rfl ?_
  refine z_iload_n (pc := 64) dX6_gripsOf_64 rfl rfl ?_
  refine z_V3i (pc := 65) dX6_gripsOf_65 lVX6_250 ym_0 rfl (Nat.le_of_ble_eq_true rfl) (kX6_says (0 : Int32) l1 l2 σ D (by omega)) (fun r1 s1 => ?_)
  refine z_istore (pc := 68) dX6_gripsOf_68 (Nat.le_of_ble_eq_true rfl) (z_so8_4 rfl) ?_
  refine z_aload_n (pc := 70) dX6_gripsOf_70 rfl rfl ?_
  refine gfX6_9 (pc := 71) dX6_gripsOf_71 ym_0 w_10_10 rfl ?_
  refine z_iconst_3 (pc := 74) dX6_gripsOf_74 ?_
  refine z_iload_n (pc := 75) dX6_gripsOf_75 rfl rfl ?_
  refine z_imul (pc := 76) dX6_gripsOf_76 ?_
  refine z_iconst_2 (pc := 77) dX6_gripsOf_77 ?_
  refine z_iadd (pc := 78) dX6_gripsOf_78 ?_
  refine z_iald (pc := 79) dX6_gripsOf_79 ym_4 ?_
  refine z_istore (pc := 80) dX6_gripsOf_80 (Nat.le_of_ble_eq_true rfl) (z_so8_5 rfl) ?_
  refine z_iload (pc := 82) dX6_gripsOf_82 rfl ?_
  refine z_iconst_1 (pc := 84) dX6_gripsOf_84 ?_
  refine z_icmp_eq (tgt := 94) (pc := 85) dX6_gripsOf_85 (by decide) (fun _ => ?_) (fun _ => ?_)
  · refine z_iconst_2 (pc := 94) dX6_gripsOf_94 ?_
    refine z_iload (pc := 95) dX6_gripsOf_95 rfl ?_
    refine z_imul (pc := 97) dX6_gripsOf_97 ?_
    refine z_goto (tgt := 103) (pc := 98) dX6_gripsOf_98 (by decide) ?_
    exact z_weak (lv' := [some (zR 0), some (zI l1), none, some (zI l3), some (zI r1), none, none, none]) (z_sub_ok ⟨rfl, rfl, rfl, rfl, trivial⟩) (kX6_gripsOf_j103 D  hD l1 l3 r1 ((2 : Int32) * r1) s1)
  · refine z_iload (pc := 88) dX6_gripsOf_88 rfl ?_
    refine z_iconst_3 (pc := 90) dX6_gripsOf_90 ?_
    refine z_icmp_ne (tgt := 101) (pc := 91) dX6_gripsOf_91 (by decide) (fun _ => ?_) (fun _ => ?_)
    · refine z_iload (pc := 101) dX6_gripsOf_101 rfl ?_
      exact z_weak (lv' := [some (zR 0), some (zI l1), none, some (zI l3), some (zI r1), none, none, none]) (z_sub_ok ⟨rfl, rfl, rfl, rfl, trivial⟩) (kX6_gripsOf_j103 D  hD l1 l3 r1 r1 s1)
    · refine z_iconst_2 (pc := 94) dX6_gripsOf_94 ?_
      refine z_iload (pc := 95) dX6_gripsOf_95 rfl ?_
      refine z_imul (pc := 97) dX6_gripsOf_97 ?_
      refine z_goto (tgt := 103) (pc := 98) dX6_gripsOf_98 (by decide) ?_
      exact z_weak (lv' := [some (zR 0), some (zI l1), none, some (zI l3), some (zI r1), none, none, none]) (z_sub_ok ⟨rfl, rfl, rfl, rfl, trivial⟩) (kX6_gripsOf_j103 D  hD l1 l3 r1 ((2 : Int32) * r1) s1)
def fX6_gripsOf  (a1 : Int32) (a2 : Int32) (σ : z_Mem) : Option (Int32 × z_Mem) :=
  z_gd (z_in (((3 : Int32) * a1) + (2 : Int32)) 18) (if σ.1 4 (z_x (((3 : Int32) * a1) + (2 : Int32))) = (5 : Int32) then (if σ.1 4 (z_x (((3 : Int32) * a1) + (2 : Int32))) = (5 : Int32) then (z_gd (z_in (((3 : Int32) * a1) + (1 : Int32)) 18) (some (σ.1 4 (z_x (((3 : Int32) * a1) + (1 : Int32))), σ))) else (some ((99 : Int32), σ))) else (if σ.1 4 (z_x (((3 : Int32) * a1) + (2 : Int32))) = (3 : Int32) then (z_gd (z_in ((3 : Int32) * a1) 18) (z_gd (z_in ((3 : Int32) * a2) 18) (if σ.1 4 (z_x ((3 : Int32) * a1)) = σ.1 4 (z_x ((3 : Int32) * a2)) then (if σ.1 4 (z_x (((3 : Int32) * a1) + (2 : Int32))) = (5 : Int32) then (z_gd (z_in (((3 : Int32) * a1) + (1 : Int32)) 18) (some (σ.1 4 (z_x (((3 : Int32) * a1) + (1 : Int32))), σ))) else (some ((99 : Int32), σ))) else (fX6_gripsOf_j61 a1 a2 (σ.1 4 (z_x (((3 : Int32) * a1) + (2 : Int32)))) σ)))) else (fX6_gripsOf_j61 a1 a2 (σ.1 4 (z_x (((3 : Int32) * a1) + (2 : Int32)))) σ)))
theorem kX6_gripsOf   (a1 : Int32) (a2 : Int32) (σ : z_Mem) (D : Nat) (hD : 72 ≤ D) : z_Call YM mX6_gripsOf D z_i [zR 0, zI a1, zI a2] σ (fX6_gripsOf a1 a2 σ) := by
  obtain ⟨D, rfl⟩ : ∃ E, D = E + 1 := ⟨D - 1, by omega⟩
  replace hD : 71 ≤ D := by omega
  refine z_entry (lv := [some (zR 0), some (zI a1), some (zI a2), none, none, none, none, none]) (by decide) rfl (Nat.le_of_ble_eq_true rfl) rfl ?_
  rw [fX6_gripsOf]
  refine z_aload_n (pc := 0) dX6_gripsOf_0 rfl rfl ?_
  refine gfX6_9 (pc := 1) dX6_gripsOf_1 ym_0 w_10_10 rfl ?_
  refine z_iconst_3 (pc := 4) dX6_gripsOf_4 ?_
  refine z_iload_n (pc := 5) dX6_gripsOf_5 rfl rfl ?_
  refine z_imul (pc := 6) dX6_gripsOf_6 ?_
  refine z_iconst_2 (pc := 7) dX6_gripsOf_7 ?_
  refine z_iadd (pc := 8) dX6_gripsOf_8 ?_
  refine z_iald (pc := 9) dX6_gripsOf_9 ym_4 ?_
  refine z_istore_n (pc := 10) dX6_gripsOf_10 rfl (Nat.le_of_ble_eq_true rfl) (z_so8_3 rfl) ?_
  refine z_iload_n (pc := 11) dX6_gripsOf_11 rfl rfl ?_
  refine z_iconst_5 (pc := 12) dX6_gripsOf_12 ?_
  refine z_icmp_eq (tgt := 40) (pc := 13) dX6_gripsOf_13 (by decide) (fun _ => ?_) (fun _ => ?_)
  · refine z_iload_n (pc := 40) dX6_gripsOf_40 rfl rfl ?_
    refine z_iconst_5 (pc := 41) dX6_gripsOf_41 ?_
    refine z_icmp_ne (tgt := 58) (pc := 42) dX6_gripsOf_42 (by decide) (fun _ => ?_) (fun _ => ?_)
    · refine z_bipush_99 (pc := 58) dX6_gripsOf_58 ?_
      exact z_iret (pc := 60) dX6_gripsOf_60 rfl rfl
    · refine z_aload_n (pc := 45) dX6_gripsOf_45 rfl rfl ?_
      refine gfX6_9 (pc := 46) dX6_gripsOf_46 ym_0 w_10_10 rfl ?_
      refine z_iconst_3 (pc := 49) dX6_gripsOf_49 ?_
      refine z_iload_n (pc := 50) dX6_gripsOf_50 rfl rfl ?_
      refine z_imul (pc := 51) dX6_gripsOf_51 ?_
      refine z_iconst_1 (pc := 52) dX6_gripsOf_52 ?_
      refine z_iadd (pc := 53) dX6_gripsOf_53 ?_
      refine z_iald (pc := 54) dX6_gripsOf_54 ym_4 ?_
      refine z_goto (tgt := 60) (pc := 55) dX6_gripsOf_55 (by decide) ?_
      exact z_iret (pc := 60) dX6_gripsOf_60 rfl rfl
  · refine z_iload_n (pc := 16) dX6_gripsOf_16 rfl rfl ?_
    refine z_iconst_3 (pc := 17) dX6_gripsOf_17 ?_
    refine z_icmp_ne (tgt := 61) (pc := 18) dX6_gripsOf_18 (by decide) (fun _ => ?_) (fun _ => ?_)
    · exact kX6_gripsOf_j61 D  hD a1 a2 (σ.1 4 (z_x (((3 : Int32) * a1) + (2 : Int32)))) σ
    · refine z_aload_n (pc := 21) dX6_gripsOf_21 rfl rfl ?_
      refine gfX6_9 (pc := 22) dX6_gripsOf_22 ym_0 w_10_10 rfl ?_
      refine z_iconst_3 (pc := 25) dX6_gripsOf_25 ?_
      refine z_iload_n (pc := 26) dX6_gripsOf_26 rfl rfl ?_
      refine z_imul (pc := 27) dX6_gripsOf_27 ?_
      refine z_iald (pc := 28) dX6_gripsOf_28 ym_4 ?_
      refine z_aload_n (pc := 29) dX6_gripsOf_29 rfl rfl ?_
      refine gfX6_9 (pc := 30) dX6_gripsOf_30 ym_0 w_10_10 rfl ?_
      refine z_iconst_3 (pc := 33) dX6_gripsOf_33 ?_
      refine z_iload_n (pc := 34) dX6_gripsOf_34 rfl rfl ?_
      refine z_imul (pc := 35) dX6_gripsOf_35 ?_
      refine z_iald (pc := 36) dX6_gripsOf_36 ym_4 ?_
      refine z_icmp_ne (tgt := 61) (pc := 37) dX6_gripsOf_37 (by decide) (fun _ => ?_) (fun _ => ?_)
      · exact kX6_gripsOf_j61 D  hD a1 a2 (σ.1 4 (z_x (((3 : Int32) * a1) + (2 : Int32)))) σ
      · refine z_iload_n (pc := 40) dX6_gripsOf_40 rfl rfl ?_
        refine z_iconst_5 (pc := 41) dX6_gripsOf_41 ?_
        refine z_icmp_ne (tgt := 58) (pc := 42) dX6_gripsOf_42 (by decide) (fun _ => ?_) (fun _ => ?_)
        · refine z_bipush_99 (pc := 58) dX6_gripsOf_58 ?_
          exact z_iret (pc := 60) dX6_gripsOf_60 rfl rfl
        · refine z_aload_n (pc := 45) dX6_gripsOf_45 rfl rfl ?_
          refine gfX6_9 (pc := 46) dX6_gripsOf_46 ym_0 w_10_10 rfl ?_
          refine z_iconst_3 (pc := 49) dX6_gripsOf_49 ?_
          refine z_iload_n (pc := 50) dX6_gripsOf_50 rfl rfl ?_
          refine z_imul (pc := 51) dX6_gripsOf_51 ?_
          refine z_iconst_1 (pc := 52) dX6_gripsOf_52 ?_
          refine z_iadd (pc := 53) dX6_gripsOf_53 ?_
          refine z_iald (pc := 54) dX6_gripsOf_54 ym_4 ?_
          refine z_goto (tgt := 60) (pc := 55) dX6_gripsOf_55 (by decide) ?_
          exact z_iret (pc := 60) dX6_gripsOf_60 rfl rfl
def fX6_handsOf_j42  (l1 : Int32) (l2 : Int32) (l3 : Int32) (σ : z_Mem) : Option (Int32 × z_Mem) :=
  z_bd (fX6_says (1 : Int32) l1 (-1 : Int32) σ) (fun r1 s1 => if l3 = (2 : Int32) then (z_bd (fX6_within ((l2 - r1) / (2 : Int32)) (0 : Int32) (99 : Int32) s1) (fun r2 s2 => some (r2, s2))) else (if l3 = (4 : Int32) then (z_bd (fX6_within ((l2 - r1) / (2 : Int32)) (0 : Int32) (99 : Int32) s1) (fun r5 s5 => some (r5, s5))) else (if l3 = (5 : Int32) then (z_bd (fX6_within ((l2 - r1) + (10 : Int32)) (0 : Int32) (99 : Int32) s1) (fun r4 s4 => some (r4, s4))) else (z_bd (fX6_within (l2 - r1) (0 : Int32) (99 : Int32) s1) (fun r3 s3 => some (r3, s3))))))
theorem kX6_handsOf_j42 (D : Nat)   (hD : 71 ≤ D) (l1 : Int32) (l2 : Int32) (l3 : Int32)  (σ : z_Mem) : z_Go YM mX6_handsOf (D + 1) z_i 42 [some (zR 0), some (zI l1), some (zI l2), some (zI l3), none] [] σ (fX6_handsOf_j42 l1 l2 l3 σ) := by
  rw [fX6_handsOf_j42]
  refine z_iload_n (pc := 42) dX6_handsOf_42 rfl rfl ?_
  refine z_aload_n (pc := 43) dX6_handsOf_43 rfl rfl ?_
  refine z_iconst_1 (pc := 44) dX6_handsOf_44 ?_
  refine z_iload_n (pc := 45) dX6_handsOf_45 rfl rfl ?_
  refine z_iconst_m1 (pc := 46) dX6_handsOf_46 ?_
  refine z_V3i (pc := 47) dX6_handsOf_47 lVX6_250 ym_0 rfl (Nat.le_of_ble_eq_true rfl) (kX6_says (1 : Int32) l1 (-1 : Int32) σ D (by omega)) (fun r1 s1 => ?_)
  refine z_isub (pc := 50) dX6_handsOf_50 ?_
  refine z_istore (pc := 51) dX6_handsOf_51 (Nat.le_of_ble_eq_true rfl) (z_so5_4 rfl) ?_
  refine z_iload_n (pc := 53) dX6_handsOf_53 rfl rfl ?_
  refine z_iconst_2 (pc := 54) dX6_handsOf_54 ?_
  refine z_icmp_eq (tgt := 63) (pc := 55) dX6_handsOf_55 (by decide) (fun _ => ?_) (fun _ => ?_)
  · refine z_iload (pc := 63) dX6_handsOf_63 rfl ?_
    refine z_iconst_2 (pc := 65) dX6_handsOf_65 ?_
    refine z_idivK (pc := 66) dX6_handsOf_66 (by decide) ?_
    refine z_goto (tgt := 85) (pc := 67) dX6_handsOf_67 (by decide) ?_
    refine z_iconst_0 (pc := 85) dX6_handsOf_85 ?_
    refine z_bipush_99 (pc := 86) dX6_handsOf_86 ?_
    refine z_S3i (pc := 88) dX6_handsOf_88 lSX6_246 (Nat.le_of_ble_eq_true rfl) (kX6_within ((l2 - r1) / (2 : Int32)) (0 : Int32) (99 : Int32) s1 D (by omega)) (fun r2 s2 => ?_)
    exact z_iret (pc := 91) dX6_handsOf_91 rfl rfl
  · refine z_iload_n (pc := 58) dX6_handsOf_58 rfl rfl ?_
    refine z_iconst_4 (pc := 59) dX6_handsOf_59 ?_
    refine z_icmp_ne (tgt := 70) (pc := 60) dX6_handsOf_60 (by decide) (fun _ => ?_) (fun _ => ?_)
    · refine z_iload_n (pc := 70) dX6_handsOf_70 rfl rfl ?_
      refine z_iconst_5 (pc := 71) dX6_handsOf_71 ?_
      refine z_icmp_ne (tgt := 83) (pc := 72) dX6_handsOf_72 (by decide) (fun _ => ?_) (fun _ => ?_)
      · refine z_iload (pc := 83) dX6_handsOf_83 rfl ?_
        refine z_iconst_0 (pc := 85) dX6_handsOf_85 ?_
        refine z_bipush_99 (pc := 86) dX6_handsOf_86 ?_
        refine z_S3i (pc := 88) dX6_handsOf_88 lSX6_246 (Nat.le_of_ble_eq_true rfl) (kX6_within (l2 - r1) (0 : Int32) (99 : Int32) s1 D (by omega)) (fun r3 s3 => ?_)
        exact z_iret (pc := 91) dX6_handsOf_91 rfl rfl
      · refine z_iload (pc := 75) dX6_handsOf_75 rfl ?_
        refine z_bipush_10 (pc := 77) dX6_handsOf_77 ?_
        refine z_iadd (pc := 79) dX6_handsOf_79 ?_
        refine z_goto (tgt := 85) (pc := 80) dX6_handsOf_80 (by decide) ?_
        refine z_iconst_0 (pc := 85) dX6_handsOf_85 ?_
        refine z_bipush_99 (pc := 86) dX6_handsOf_86 ?_
        refine z_S3i (pc := 88) dX6_handsOf_88 lSX6_246 (Nat.le_of_ble_eq_true rfl) (kX6_within ((l2 - r1) + (10 : Int32)) (0 : Int32) (99 : Int32) s1 D (by omega)) (fun r4 s4 => ?_)
        exact z_iret (pc := 91) dX6_handsOf_91 rfl rfl
    · refine z_iload (pc := 63) dX6_handsOf_63 rfl ?_
      refine z_iconst_2 (pc := 65) dX6_handsOf_65 ?_
      refine z_idivK (pc := 66) dX6_handsOf_66 (by decide) ?_
      refine z_goto (tgt := 85) (pc := 67) dX6_handsOf_67 (by decide) ?_
      refine z_iconst_0 (pc := 85) dX6_handsOf_85 ?_
      refine z_bipush_99 (pc := 86) dX6_handsOf_86 ?_
      refine z_S3i (pc := 88) dX6_handsOf_88 lSX6_246 (Nat.le_of_ble_eq_true rfl) (kX6_within ((l2 - r1) / (2 : Int32)) (0 : Int32) (99 : Int32) s1 D (by omega)) (fun r5 s5 => ?_)
      exact z_iret (pc := 91) dX6_handsOf_91 rfl rfl
def fX6_handsOf  (a1 : Int32) (a2 : Int32) (σ : z_Mem) : Option (Int32 × z_Mem) :=
  z_gd (z_in (((3 : Int32) * a1) + (2 : Int32)) 18) (if σ.1 4 (z_x (((3 : Int32) * a1) + (2 : Int32))) = (1 : Int32) then (some (a2, σ)) else (if σ.1 4 (z_x (((3 : Int32) * a1) + (2 : Int32))) = (3 : Int32) then (if (σ.1 0 7) - (σ.1 0 7) / (2 : Int32) * (2 : Int32) = 0 then (some (a2, σ)) else (if σ.1 4 (z_x (((3 : Int32) * a1) + (2 : Int32))) = (4 : Int32) then (if (5 : Int32) ≤ a2 then (fX6_handsOf_j42 a1 a2 (σ.1 4 (z_x (((3 : Int32) * a1) + (2 : Int32)))) σ) else (some (a2, σ))) else (fX6_handsOf_j42 a1 a2 (σ.1 4 (z_x (((3 : Int32) * a1) + (2 : Int32)))) σ))) else (if σ.1 4 (z_x (((3 : Int32) * a1) + (2 : Int32))) = (4 : Int32) then (if (5 : Int32) ≤ a2 then (fX6_handsOf_j42 a1 a2 (σ.1 4 (z_x (((3 : Int32) * a1) + (2 : Int32)))) σ) else (some (a2, σ))) else (fX6_handsOf_j42 a1 a2 (σ.1 4 (z_x (((3 : Int32) * a1) + (2 : Int32)))) σ))))
theorem kX6_handsOf   (a1 : Int32) (a2 : Int32) (σ : z_Mem) (D : Nat) (hD : 72 ≤ D) : z_Call YM mX6_handsOf D z_i [zR 0, zI a1, zI a2] σ (fX6_handsOf a1 a2 σ) := by
  obtain ⟨D, rfl⟩ : ∃ E, D = E + 1 := ⟨D - 1, by omega⟩
  replace hD : 71 ≤ D := by omega
  refine z_entry (lv := [some (zR 0), some (zI a1), some (zI a2), none, none]) (by decide) rfl (Nat.le_of_ble_eq_true rfl) rfl ?_
  rw [fX6_handsOf]
  refine z_aload_n (pc := 0) dX6_handsOf_0 rfl rfl ?_
  refine gfX6_9 (pc := 1) dX6_handsOf_1 ym_0 w_10_10 rfl ?_
  refine z_iconst_3 (pc := 4) dX6_handsOf_4 ?_
  refine z_iload_n (pc := 5) dX6_handsOf_5 rfl rfl ?_
  refine z_imul (pc := 6) dX6_handsOf_6 ?_
  refine z_iconst_2 (pc := 7) dX6_handsOf_7 ?_
  refine z_iadd (pc := 8) dX6_handsOf_8 ?_
  refine z_iald (pc := 9) dX6_handsOf_9 ym_4 ?_
  refine z_istore_n (pc := 10) dX6_handsOf_10 rfl (Nat.le_of_ble_eq_true rfl) (z_so5_3 rfl) ?_
  refine z_iload_n (pc := 11) dX6_handsOf_11 rfl rfl ?_
  refine z_iconst_1 (pc := 12) dX6_handsOf_12 ?_
  refine z_icmp_eq (tgt := 40) (pc := 13) dX6_handsOf_13 (by decide) (fun _ => ?_) (fun _ => ?_)
  · refine z_iload_n (pc := 40) dX6_handsOf_40 rfl rfl ?_
    exact z_iret (pc := 41) dX6_handsOf_41 rfl rfl
  · refine z_iload_n (pc := 16) dX6_handsOf_16 rfl rfl ?_
    refine z_iconst_3 (pc := 17) dX6_handsOf_17 ?_
    refine z_icmp_ne (tgt := 30) (pc := 18) dX6_handsOf_18 (by decide) (fun _ => ?_) (fun _ => ?_)
    · refine z_iload_n (pc := 30) dX6_handsOf_30 rfl rfl ?_
      refine z_iconst_4 (pc := 31) dX6_handsOf_31 ?_
      refine z_icmp_ne (tgt := 42) (pc := 32) dX6_handsOf_32 (by decide) (fun _ => ?_) (fun _ => ?_)
      · exact kX6_handsOf_j42 D  hD a1 a2 (σ.1 4 (z_x (((3 : Int32) * a1) + (2 : Int32)))) σ
      · refine z_iload_n (pc := 35) dX6_handsOf_35 rfl rfl ?_
        refine z_iconst_5 (pc := 36) dX6_handsOf_36 ?_
        refine z_icmp_ge (tgt := 42) (pc := 37) dX6_handsOf_37 (by decide) (fun _ => ?_) (fun _ => ?_)
        · exact kX6_handsOf_j42 D  hD a1 a2 (σ.1 4 (z_x (((3 : Int32) * a1) + (2 : Int32)))) σ
        · refine z_iload_n (pc := 40) dX6_handsOf_40 rfl rfl ?_
          exact z_iret (pc := 41) dX6_handsOf_41 rfl rfl
    · refine z_aload_n (pc := 21) dX6_handsOf_21 rfl rfl ?_
      refine gfX6_7 (pc := 22) dX6_handsOf_22 ym_0 w_13_10 rfl ?_
      refine z_iconst_2 (pc := 25) dX6_handsOf_25 ?_
      refine z_iremK (pc := 26) dX6_handsOf_26 (by decide) ?_
      refine z_if_eq (tgt := 40) (pc := 27) dX6_handsOf_27 (by decide) (fun _ => ?_) (fun _ => ?_)
      · refine z_iload_n (pc := 40) dX6_handsOf_40 rfl rfl ?_
        exact z_iret (pc := 41) dX6_handsOf_41 rfl rfl
      · refine z_iload_n (pc := 30) dX6_handsOf_30 rfl rfl ?_
        refine z_iconst_4 (pc := 31) dX6_handsOf_31 ?_
        refine z_icmp_ne (tgt := 42) (pc := 32) dX6_handsOf_32 (by decide) (fun _ => ?_) (fun _ => ?_)
        · exact kX6_handsOf_j42 D  hD a1 a2 (σ.1 4 (z_x (((3 : Int32) * a1) + (2 : Int32)))) σ
        · refine z_iload_n (pc := 35) dX6_handsOf_35 rfl rfl ?_
          refine z_iconst_5 (pc := 36) dX6_handsOf_36 ?_
          refine z_icmp_ge (tgt := 42) (pc := 37) dX6_handsOf_37 (by decide) (fun _ => ?_) (fun _ => ?_)
          · exact kX6_handsOf_j42 D  hD a1 a2 (σ.1 4 (z_x (((3 : Int32) * a1) + (2 : Int32)))) σ
          · refine z_iload_n (pc := 40) dX6_handsOf_40 rfl rfl ?_
            exact z_iret (pc := 41) dX6_handsOf_41 rfl rfl
def fX6_spentOf_j32  (l1 : Int32) (l2 : Int32) (σ : z_Mem) : Option (Int32 × z_Mem) :=
  z_bd (fX6_says (2 : Int32) l1 (-1 : Int32) σ) (fun r1 s1 => if l2 = (1 : Int32) then (z_bd (fX6_within (r1 / (2 : Int32)) (0 : Int32) (99 : Int32) s1) (fun r2 s2 => some (r2, s2))) else (if l2 = (3 : Int32) then (z_bd (fX6_within (r1 / (2 : Int32)) (0 : Int32) (99 : Int32) s1) (fun r5 s5 => some (r5, s5))) else (if l2 = 0 then (z_bd (fX6_within r1 (0 : Int32) (99 : Int32) s1) (fun r4 s4 => some (r4, s4))) else (z_bd (fX6_within (r1 + (1 : Int32)) (0 : Int32) (99 : Int32) s1) (fun r3 s3 => some (r3, s3))))))
theorem kX6_spentOf_j32 (D : Nat)   (hD : 71 ≤ D) (l1 : Int32) (l2 : Int32)  (σ : z_Mem) : z_Go YM mX6_spentOf (D + 1) z_i 32 [some (zR 0), some (zI l1), some (zI l2), none] [] σ (fX6_spentOf_j32 l1 l2 σ) := by
  rw [fX6_spentOf_j32]
  refine z_aload_n (pc := 32) dX6_spentOf_32 rfl rfl ?_
  refine z_iconst_2 (pc := 33) dX6_spentOf_33 ?_
  refine z_iload_n (pc := 34) dX6_spentOf_34 rfl rfl ?_
  refine z_iconst_m1 (pc := 35) dX6_spentOf_35 ?_
  refine z_V3i (pc := 36) dX6_spentOf_36 lVX6_250 ym_0 rfl (Nat.le_of_ble_eq_true rfl) (kX6_says (2 : Int32) l1 (-1 : Int32) σ D (by omega)) (fun r1 s1 => ?_)
  refine z_istore_n (pc := 39) dX6_spentOf_39 rfl (Nat.le_of_ble_eq_true rfl) (z_so4_3 rfl) ?_
  refine z_iload_n (pc := 40) dX6_spentOf_40 rfl rfl ?_
  refine z_iconst_1 (pc := 41) dX6_spentOf_41 ?_
  refine z_icmp_eq (tgt := 50) (pc := 42) dX6_spentOf_42 (by decide) (fun _ => ?_) (fun _ => ?_)
  · refine z_iload_n (pc := 50) dX6_spentOf_50 rfl rfl ?_
    refine z_iconst_2 (pc := 51) dX6_spentOf_51 ?_
    refine z_idivK (pc := 52) dX6_spentOf_52 (by decide) ?_
    refine z_goto (tgt := 67) (pc := 53) dX6_spentOf_53 (by decide) ?_
    refine z_iconst_0 (pc := 67) dX6_spentOf_67 ?_
    refine z_bipush_99 (pc := 68) dX6_spentOf_68 ?_
    refine z_S3i (pc := 70) dX6_spentOf_70 lSX6_246 (Nat.le_of_ble_eq_true rfl) (kX6_within (r1 / (2 : Int32)) (0 : Int32) (99 : Int32) s1 D (by omega)) (fun r2 s2 => ?_)
    exact z_iret (pc := 73) dX6_spentOf_73 rfl rfl
  · refine z_iload_n (pc := 45) dX6_spentOf_45 rfl rfl ?_
    refine z_iconst_3 (pc := 46) dX6_spentOf_46 ?_
    refine z_icmp_ne (tgt := 56) (pc := 47) dX6_spentOf_47 (by decide) (fun _ => ?_) (fun _ => ?_)
    · refine z_iload_n (pc := 56) dX6_spentOf_56 rfl rfl ?_
      refine z_if_ne (tgt := 64) (pc := 57) dX6_spentOf_57 (by decide) (fun _ => ?_) (fun _ => ?_)
      · refine z_iload_n (pc := 64) dX6_spentOf_64 rfl rfl ?_
        refine z_iconst_1 (pc := 65) dX6_spentOf_65 ?_
        refine z_iadd (pc := 66) dX6_spentOf_66 ?_
        refine z_iconst_0 (pc := 67) dX6_spentOf_67 ?_
        refine z_bipush_99 (pc := 68) dX6_spentOf_68 ?_
        refine z_S3i (pc := 70) dX6_spentOf_70 lSX6_246 (Nat.le_of_ble_eq_true rfl) (kX6_within (r1 + (1 : Int32)) (0 : Int32) (99 : Int32) s1 D (by omega)) (fun r3 s3 => ?_)
        exact z_iret (pc := 73) dX6_spentOf_73 rfl rfl
      · refine z_iload_n (pc := 60) dX6_spentOf_60 rfl rfl ?_
        refine z_goto (tgt := 67) (pc := 61) dX6_spentOf_61 (by decide) ?_
        refine z_iconst_0 (pc := 67) dX6_spentOf_67 ?_
        refine z_bipush_99 (pc := 68) dX6_spentOf_68 ?_
        refine z_S3i (pc := 70) dX6_spentOf_70 lSX6_246 (Nat.le_of_ble_eq_true rfl) (kX6_within r1 (0 : Int32) (99 : Int32) s1 D (by omega)) (fun r4 s4 => ?_)
        exact z_iret (pc := 73) dX6_spentOf_73 rfl rfl
    · refine z_iload_n (pc := 50) dX6_spentOf_50 rfl rfl ?_
      refine z_iconst_2 (pc := 51) dX6_spentOf_51 ?_
      refine z_idivK (pc := 52) dX6_spentOf_52 (by decide) ?_
      refine z_goto (tgt := 67) (pc := 53) dX6_spentOf_53 (by decide) ?_
      refine z_iconst_0 (pc := 67) dX6_spentOf_67 ?_
      refine z_bipush_99 (pc := 68) dX6_spentOf_68 ?_
      refine z_S3i (pc := 70) dX6_spentOf_70 lSX6_246 (Nat.le_of_ble_eq_true rfl) (kX6_within (r1 / (2 : Int32)) (0 : Int32) (99 : Int32) s1 D (by omega)) (fun r5 s5 => ?_)
      exact z_iret (pc := 73) dX6_spentOf_73 rfl rfl
def fX6_spentOf  (a1 : Int32) (σ : z_Mem) : Option (Int32 × z_Mem) :=
  z_gd (z_in (((3 : Int32) * a1) + (2 : Int32)) 18) (if σ.1 4 (z_x (((3 : Int32) * a1) + (2 : Int32))) = (5 : Int32) then (some ((0 : Int32), σ)) else (if σ.1 4 (z_x (((3 : Int32) * a1) + (2 : Int32))) = (4 : Int32) then (if (21 : Int32) ≤ σ.1 0 8 then (fX6_spentOf_j32 a1 (σ.1 4 (z_x (((3 : Int32) * a1) + (2 : Int32)))) σ) else (some ((0 : Int32), σ))) else (fX6_spentOf_j32 a1 (σ.1 4 (z_x (((3 : Int32) * a1) + (2 : Int32)))) σ)))
theorem kX6_spentOf   (a1 : Int32) (σ : z_Mem) (D : Nat) (hD : 72 ≤ D) : z_Call YM mX6_spentOf D z_i [zR 0, zI a1] σ (fX6_spentOf a1 σ) := by
  obtain ⟨D, rfl⟩ : ∃ E, D = E + 1 := ⟨D - 1, by omega⟩
  replace hD : 71 ≤ D := by omega
  refine z_entry (lv := [some (zR 0), some (zI a1), none, none]) (by decide) rfl (Nat.le_of_ble_eq_true rfl) rfl ?_
  rw [fX6_spentOf]
  refine z_aload_n (pc := 0) dX6_spentOf_0 rfl rfl ?_
  refine gfX6_9 (pc := 1) dX6_spentOf_1 ym_0 w_10_10 rfl ?_
  refine z_iconst_3 (pc := 4) dX6_spentOf_4 ?_
  refine z_iload_n (pc := 5) dX6_spentOf_5 rfl rfl ?_
  refine z_imul (pc := 6) dX6_spentOf_6 ?_
  refine z_iconst_2 (pc := 7) dX6_spentOf_7 ?_
  refine z_iadd (pc := 8) dX6_spentOf_8 ?_
  refine z_iald (pc := 9) dX6_spentOf_9 ym_4 ?_
  refine z_istore_n (pc := 10) dX6_spentOf_10 rfl (Nat.le_of_ble_eq_true rfl) (z_so4_2 rfl) ?_
  refine z_iload_n (pc := 11) dX6_spentOf_11 rfl rfl ?_
  refine z_iconst_5 (pc := 12) dX6_spentOf_12 ?_
  refine z_icmp_eq (tgt := 30) (pc := 13) dX6_spentOf_13 (by decide) (fun _ => ?_) (fun _ => ?_)
  · refine z_iconst_0 (pc := 30) dX6_spentOf_30 ?_
    exact z_iret (pc := 31) dX6_spentOf_31 rfl rfl
  · refine z_iload_n (pc := 16) dX6_spentOf_16 rfl rfl ?_
    refine z_iconst_4 (pc := 17) dX6_spentOf_17 ?_
    refine z_icmp_ne (tgt := 32) (pc := 18) dX6_spentOf_18 (by decide) (fun _ => ?_) (fun _ => ?_)
    · exact kX6_spentOf_j32 D  hD a1 (σ.1 4 (z_x (((3 : Int32) * a1) + (2 : Int32)))) σ
    · refine z_aload_n (pc := 21) dX6_spentOf_21 rfl rfl ?_
      refine gfX6_8 (pc := 22) dX6_spentOf_22 ym_0 w_13_11 rfl ?_
      refine z_bipush_21 (pc := 25) dX6_spentOf_25 ?_
      refine z_icmp_ge (tgt := 32) (pc := 27) dX6_spentOf_27 (by decide) (fun _ => ?_) (fun _ => ?_)
      · exact kX6_spentOf_j32 D  hD a1 (σ.1 4 (z_x (((3 : Int32) * a1) + (2 : Int32)))) σ
      · refine z_iconst_0 (pc := 30) dX6_spentOf_30 ?_
        exact z_iret (pc := 31) dX6_spentOf_31 rfl rfl
def fX6_grips  (a1 : Int32) (a2 : Int32) (σ : z_Mem) : Option (Int32 × z_Mem) :=
  z_bd (fX6_areTwo a1 a2 σ) (fun r1 s1 => if r1 = 0 then (some ((-2 : Int32), s1)) else (z_bd (fX6_gripsOf a1 a2 s1) (fun r2 s2 => some (r2, s2))))
theorem kX6_grips   (a1 : Int32) (a2 : Int32) (σ : z_Mem) (D : Nat) (hD : 73 ≤ D) : z_Call YM mX6_grips D z_i [zR 0, zI a1, zI a2] σ (fX6_grips a1 a2 σ) := by
  obtain ⟨D, rfl⟩ : ∃ E, D = E + 1 := ⟨D - 1, by omega⟩
  replace hD : 72 ≤ D := by omega
  refine z_entry (lv := [some (zR 0), some (zI a1), some (zI a2)]) (by decide) rfl (Nat.le_of_ble_eq_true rfl) rfl ?_
  rw [fX6_grips]
  refine z_aload_n (pc := 0) dX6_grips_0 rfl rfl ?_
  refine z_iload_n (pc := 1) dX6_grips_1 rfl rfl ?_
  refine z_iload_n (pc := 2) dX6_grips_2 rfl rfl ?_
  refine z_V2i (pc := 3) dX6_grips_3 lVX6_253 ym_0 rfl (Nat.le_of_ble_eq_true rfl) (kX6_areTwo a1 a2 σ D (by omega)) (fun r1 s1 => ?_)
  refine z_if_eq (tgt := 18) (pc := 6) dX6_grips_6 (by decide) (fun _ => ?_) (fun _ => ?_)
  · refine z_bipush_m2 (pc := 18) dX6_grips_18 ?_
    exact z_iret (pc := 20) dX6_grips_20 rfl rfl
  · refine z_aload_n (pc := 9) dX6_grips_9 rfl rfl ?_
    refine z_iload_n (pc := 10) dX6_grips_10 rfl rfl ?_
    refine z_iload_n (pc := 11) dX6_grips_11 rfl rfl ?_
    refine z_V2i (pc := 12) dX6_grips_12 lVX6_256 ym_0 rfl (Nat.le_of_ble_eq_true rfl) (kX6_gripsOf a1 a2 s1 D (by omega)) (fun r2 s2 => ?_)
    refine z_goto (tgt := 20) (pc := 15) dX6_grips_15 (by decide) ?_
    exact z_iret (pc := 20) dX6_grips_20 rfl rfl
def fX6_hands  (a1 : Int32) (a2 : Int32) (σ : z_Mem) : Option (Int32 × z_Mem) :=
  z_bd (fX6_isOne a1 σ) (fun r1 s1 => if r1 = 0 then (some ((-2 : Int32), s1)) else (z_bd (fX6_in a2.toInt64 (0 : Int64) (99 : Int64) s1) (fun r2 s2 => if r2 = 0 then (some ((-2 : Int32), s2)) else (z_bd (fX6_handsOf a1 a2 s2) (fun r3 s3 => some (r3, s3))))))
theorem kX6_hands   (a1 : Int32) (a2 : Int32) (σ : z_Mem) (D : Nat) (hD : 73 ≤ D) : z_Call YM mX6_hands D z_i [zR 0, zI a1, zI a2] σ (fX6_hands a1 a2 σ) := by
  obtain ⟨D, rfl⟩ : ∃ E, D = E + 1 := ⟨D - 1, by omega⟩
  replace hD : 72 ≤ D := by omega
  refine z_entry (lv := [some (zR 0), some (zI a1), some (zI a2)]) (by decide) rfl (Nat.le_of_ble_eq_true rfl) rfl ?_
  rw [fX6_hands]
  refine z_aload_n (pc := 0) dX6_hands_0 rfl rfl ?_
  refine z_iload_n (pc := 1) dX6_hands_1 rfl rfl ?_
  refine z_V1i (pc := 2) dX6_hands_2 lVX6_74 ym_0 rfl (Nat.le_of_ble_eq_true rfl) (kX6_isOne a1 σ D (by omega)) (fun r1 s1 => ?_)
  refine z_if_eq (tgt := 29) (pc := 5) dX6_hands_5 (by decide) (fun _ => ?_) (fun _ => ?_)
  · refine z_bipush_m2 (pc := 29) dX6_hands_29 ?_
    exact z_iret (pc := 31) dX6_hands_31 rfl rfl
  · refine z_iload_n (pc := 8) dX6_hands_8 rfl rfl ?_
    refine z_i2l (pc := 9) dX6_hands_9 ?_
    refine z_lconst (v := 0) (pc := 10) dX6_hands_10 rfl ?_
    refine z_ldc2 (v := 99) (pc := 11) dX6_hands_11 w_19_1 ?_
    refine z_S3i (pc := 14) dX6_hands_14 lSX6_70 (Nat.le_of_ble_eq_true rfl) (kX6_in a2.toInt64 (0 : Int64) (99 : Int64) s1 D (by omega)) (fun r2 s2 => ?_)
    refine z_if_eq (tgt := 29) (pc := 17) dX6_hands_17 (by decide) (fun _ => ?_) (fun _ => ?_)
    · refine z_bipush_m2 (pc := 29) dX6_hands_29 ?_
      exact z_iret (pc := 31) dX6_hands_31 rfl rfl
    · refine z_aload_n (pc := 20) dX6_hands_20 rfl rfl ?_
      refine z_iload_n (pc := 21) dX6_hands_21 rfl rfl ?_
      refine z_iload_n (pc := 22) dX6_hands_22 rfl rfl ?_
      refine z_V2i (pc := 23) dX6_hands_23 lVX6_259 ym_0 rfl (Nat.le_of_ble_eq_true rfl) (kX6_handsOf a1 a2 s2 D (by omega)) (fun r3 s3 => ?_)
      refine z_goto (tgt := 31) (pc := 26) dX6_hands_26 (by decide) ?_
      exact z_iret (pc := 31) dX6_hands_31 rfl rfl
def fX6_hold  (a1 : Int32) (σ : z_Mem) : Option (Int32 × z_Mem) :=
  z_gd (z_in a1 6) (z_gd (¬ (σ.1 0 12) = 0) (z_gd (z_in ((a1 + (1 : Int32)) - (a1 + (1 : Int32)) / (σ.1 0 12) * (σ.1 0 12)) 6) (z_bd (fX6_gripsOf (σ.1 5 (z_x a1)) (σ.1 5 (z_x ((a1 + (1 : Int32)) - (a1 + (1 : Int32)) / (σ.1 0 12) * (σ.1 0 12)))) σ) (fun r1 s1 => z_bd (fX6_gripsOf (σ.1 5 (z_x ((a1 + (1 : Int32)) - (a1 + (1 : Int32)) / (σ.1 0 12) * (σ.1 0 12)))) (σ.1 5 (z_x a1)) s1) (fun r2 s2 => if r2 ≤ r1 then (some (r2, s2)) else (some (r1, s2)))))))
theorem kX6_hold   (a1 : Int32) (σ : z_Mem) (D : Nat) (hD : 73 ≤ D) : z_Call YM mX6_hold D z_i [zR 0, zI a1] σ (fX6_hold a1 σ) := by
  obtain ⟨D, rfl⟩ : ∃ E, D = E + 1 := ⟨D - 1, by omega⟩
  replace hD : 72 ≤ D := by omega
  refine z_entry (lv := [some (zR 0), some (zI a1), none, none, none, none]) (by decide) rfl (Nat.le_of_ble_eq_true rfl) rfl ?_
  rw [fX6_hold]
  refine z_aload_n (pc := 0) dX6_hold_0 rfl rfl ?_
  refine gfX6_11 (pc := 1) dX6_hold_1 ym_0 w_10_11 rfl ?_
  refine z_iload_n (pc := 4) dX6_hold_4 rfl rfl ?_
  refine z_iald (pc := 5) dX6_hold_5 ym_5 ?_
  refine z_istore_n (pc := 6) dX6_hold_6 rfl (Nat.le_of_ble_eq_true rfl) (z_so6_2 rfl) ?_
  refine z_aload_n (pc := 7) dX6_hold_7 rfl rfl ?_
  refine gfX6_11 (pc := 8) dX6_hold_8 ym_0 w_10_11 rfl ?_
  refine z_iload_n (pc := 11) dX6_hold_11 rfl rfl ?_
  refine z_iconst_1 (pc := 12) dX6_hold_12 ?_
  refine z_iadd (pc := 13) dX6_hold_13 ?_
  refine z_aload_n (pc := 14) dX6_hold_14 rfl rfl ?_
  refine gfX6_12 (pc := 15) dX6_hold_15 ym_0 w_12_16 rfl ?_
  refine z_irem (pc := 18) dX6_hold_18 ?_
  refine z_iald (pc := 19) dX6_hold_19 ym_5 ?_
  refine z_istore_n (pc := 20) dX6_hold_20 rfl (Nat.le_of_ble_eq_true rfl) (z_so6_3 rfl) ?_
  refine z_aload_n (pc := 21) dX6_hold_21 rfl rfl ?_
  refine z_iload_n (pc := 22) dX6_hold_22 rfl rfl ?_
  refine z_iload_n (pc := 23) dX6_hold_23 rfl rfl ?_
  refine z_V2i (pc := 24) dX6_hold_24 lVX6_256 ym_0 rfl (Nat.le_of_ble_eq_true rfl) (kX6_gripsOf (σ.1 5 (z_x a1)) (σ.1 5 (z_x ((a1 + (1 : Int32)) - (a1 + (1 : Int32)) / (σ.1 0 12) * (σ.1 0 12)))) σ D (by omega)) (fun r1 s1 => ?_)
  refine z_istore (pc := 27) dX6_hold_27 (Nat.le_of_ble_eq_true rfl) (z_so6_4 rfl) ?_
  refine z_aload_n (pc := 29) dX6_hold_29 rfl rfl ?_
  refine z_iload_n (pc := 30) dX6_hold_30 rfl rfl ?_
  refine z_iload_n (pc := 31) dX6_hold_31 rfl rfl ?_
  refine z_V2i (pc := 32) dX6_hold_32 lVX6_256 ym_0 rfl (Nat.le_of_ble_eq_true rfl) (kX6_gripsOf (σ.1 5 (z_x ((a1 + (1 : Int32)) - (a1 + (1 : Int32)) / (σ.1 0 12) * (σ.1 0 12)))) (σ.1 5 (z_x a1)) s1 D (by omega)) (fun r2 s2 => ?_)
  refine z_istore (pc := 35) dX6_hold_35 (Nat.le_of_ble_eq_true rfl) (z_so6_5 rfl) ?_
  refine z_iload (pc := 37) dX6_hold_37 rfl ?_
  refine z_iload (pc := 39) dX6_hold_39 rfl ?_
  refine z_icmp_ge (tgt := 49) (pc := 41) dX6_hold_41 (by decide) (fun _ => ?_) (fun _ => ?_)
  · refine z_iload (pc := 49) dX6_hold_49 rfl ?_
    exact z_iret (pc := 51) dX6_hold_51 rfl rfl
  · refine z_iload (pc := 44) dX6_hold_44 rfl ?_
    refine z_goto (tgt := 51) (pc := 46) dX6_hold_46 (by decide) ?_
    exact z_iret (pc := 51) dX6_hold_51 rfl rfl
def fX6_weakest_4  : Nat → Int32 → Int32 → z_Mem → Option (Int32 × z_Mem)
  | 0, _, _, _ => none
  | q + 1, l1, l2, σ => if σ.1 0 12 ≤ l2 then (some (l1, σ)) else (if σ.1 0 12 ≤ (1 : Int32) then (some (l1, σ)) else (z_bd (fX6_hold l2 σ) (fun r1 s1 => if l1 = (-1 : Int32) then (fX6_weakest_4  q r1 (l2 + 1) s1) else (if l1 ≤ r1 then (fX6_weakest_4  q l1 (l2 + 1) s1) else (fX6_weakest_4  q r1 (l2 + 1) s1)))))
theorem kX6_weakest_4 (D : Nat)   (hD : 73 ≤ D) : ∀ (q : Nat) (l1 : Int32) (l2 : Int32)  (σ : z_Mem), z_Go YM mX6_weakest (D + 1) z_i 4 [some (zR 0), some (zI l1), some (zI l2), none] [] σ (fX6_weakest_4 q l1 l2 σ) := by
  intro q
  induction q with
  | zero => intros; exact z_none
  | succ q ih =>
    intro l1 l2 σ
    rw [fX6_weakest_4]
    refine z_iload_n (pc := 4) dX6_weakest_4 rfl rfl ?_
    refine z_aload_n (pc := 5) dX6_weakest_5 rfl rfl ?_
    refine gfX6_12 (pc := 6) dX6_weakest_6 ym_0 w_12_16 rfl ?_
    refine z_icmp_ge (tgt := 48) (pc := 9) dX6_weakest_9 (by decide) (fun _ => ?_) (fun _ => ?_)
    · refine z_iload_n (pc := 48) dX6_weakest_48 rfl rfl ?_
      exact z_iret (pc := 49) dX6_weakest_49 rfl rfl
    · refine z_aload_n (pc := 12) dX6_weakest_12 rfl rfl ?_
      refine gfX6_12 (pc := 13) dX6_weakest_13 ym_0 w_12_16 rfl ?_
      refine z_iconst_1 (pc := 16) dX6_weakest_16 ?_
      refine z_icmp_le (tgt := 48) (pc := 17) dX6_weakest_17 (by decide) (fun _ => ?_) (fun _ => ?_)
      · refine z_iload_n (pc := 48) dX6_weakest_48 rfl rfl ?_
        exact z_iret (pc := 49) dX6_weakest_49 rfl rfl
      · refine z_aload_n (pc := 20) dX6_weakest_20 rfl rfl ?_
        refine z_iload_n (pc := 21) dX6_weakest_21 rfl rfl ?_
        refine z_V1i (pc := 22) dX6_weakest_22 lVX6_125 ym_0 rfl (Nat.le_of_ble_eq_true rfl) (kX6_hold l2 σ D (by omega)) (fun r1 s1 => ?_)
        refine z_istore_n (pc := 25) dX6_weakest_25 rfl (Nat.le_of_ble_eq_true rfl) (z_so4_3 rfl) ?_
        refine z_iload_n (pc := 26) dX6_weakest_26 rfl rfl ?_
        refine z_iconst_m1 (pc := 27) dX6_weakest_27 ?_
        refine z_icmp_eq (tgt := 36) (pc := 28) dX6_weakest_28 (by decide) (fun _ => ?_) (fun _ => ?_)
        · refine z_iload_n (pc := 36) dX6_weakest_36 rfl rfl ?_
          refine z_goto (tgt := 41) (pc := 37) dX6_weakest_37 (by decide) ?_
          refine z_istore_n (pc := 41) dX6_weakest_41 rfl (Nat.le_of_ble_eq_true rfl) (z_so4_1 rfl) ?_
          refine z_iinc (y := 1) (pc := 42) dX6_weakest_42 rfl (by decide) (Nat.le_of_ble_eq_true rfl) (z_so4_2 rfl) ?_
          refine z_goto (tgt := 4) (pc := 45) dX6_weakest_45 (by decide) ?_
          exact z_weak (lv' := [some (zR 0), some (zI r1), some (zI (l2 + 1)), none]) (z_sub_ok ⟨rfl, rfl, rfl, trivial⟩) (ih r1 (l2 + 1) s1)
        · refine z_iload_n (pc := 31) dX6_weakest_31 rfl rfl ?_
          refine z_iload_n (pc := 32) dX6_weakest_32 rfl rfl ?_
          refine z_icmp_ge (tgt := 40) (pc := 33) dX6_weakest_33 (by decide) (fun _ => ?_) (fun _ => ?_)
          · refine z_iload_n (pc := 40) dX6_weakest_40 rfl rfl ?_
            refine z_istore_n (pc := 41) dX6_weakest_41 rfl (Nat.le_of_ble_eq_true rfl) (z_so4_1 rfl) ?_
            refine z_iinc (y := 1) (pc := 42) dX6_weakest_42 rfl (by decide) (Nat.le_of_ble_eq_true rfl) (z_so4_2 rfl) ?_
            refine z_goto (tgt := 4) (pc := 45) dX6_weakest_45 (by decide) ?_
            exact z_weak (lv' := [some (zR 0), some (zI l1), some (zI (l2 + 1)), none]) (z_sub_ok ⟨rfl, rfl, rfl, trivial⟩) (ih l1 (l2 + 1) s1)
          · refine z_iload_n (pc := 36) dX6_weakest_36 rfl rfl ?_
            refine z_goto (tgt := 41) (pc := 37) dX6_weakest_37 (by decide) ?_
            refine z_istore_n (pc := 41) dX6_weakest_41 rfl (Nat.le_of_ble_eq_true rfl) (z_so4_1 rfl) ?_
            refine z_iinc (y := 1) (pc := 42) dX6_weakest_42 rfl (by decide) (Nat.le_of_ble_eq_true rfl) (z_so4_2 rfl) ?_
            refine z_goto (tgt := 4) (pc := 45) dX6_weakest_45 (by decide) ?_
            exact z_weak (lv' := [some (zR 0), some (zI r1), some (zI (l2 + 1)), none]) (z_sub_ok ⟨rfl, rfl, rfl, trivial⟩) (ih r1 (l2 + 1) s1)
def fX6_weakest   (σ : z_Mem) : Option (Int32 × z_Mem) :=
  fX6_weakest_4 z_FU (-1 : Int32) (0 : Int32) σ
theorem kX6_weakest    (σ : z_Mem) (D : Nat) (hD : 74 ≤ D) : z_Call YM mX6_weakest D z_i [zR 0] σ (fX6_weakest σ) := by
  obtain ⟨D, rfl⟩ : ∃ E, D = E + 1 := ⟨D - 1, by omega⟩
  replace hD : 73 ≤ D := by omega
  refine z_entry (lv := [some (zR 0), none, none, none]) (by decide) rfl (Nat.le_of_ble_eq_true rfl) rfl ?_
  rw [fX6_weakest]
  refine z_iconst_m1 (pc := 0) dX6_weakest_0 ?_
  refine z_istore_n (pc := 1) dX6_weakest_1 rfl (Nat.le_of_ble_eq_true rfl) (z_so4_1 rfl) ?_
  refine z_iconst_0 (pc := 2) dX6_weakest_2 ?_
  refine z_istore_n (pc := 3) dX6_weakest_3 rfl (Nat.le_of_ble_eq_true rfl) (z_so4_2 rfl) ?_
  exact kX6_weakest_4 D  hD z_FU (-1 : Int32) (0 : Int32) σ
def fX6_gates_4  : Nat → Int32 → Int32 → z_Mem → Option (Int32 × z_Mem)
  | 0, _, _, _ => none
  | q + 1, l1, l2, σ => if σ.1 0 12 ≤ l2 then (some (l1, σ)) else (if σ.1 0 12 ≤ (1 : Int32) then (some (l1, σ)) else (z_bd (fX6_hold l2 σ) (fun r1 s1 => if r1 = 0 then (fX6_gates_4  q (l1 + (1 : Int32)) (l2 + 1) s1) else (fX6_gates_4  q (l1 + (0 : Int32)) (l2 + 1) s1))))
theorem kX6_gates_4 (D : Nat)   (hD : 73 ≤ D) : ∀ (q : Nat) (l1 : Int32) (l2 : Int32)  (σ : z_Mem), z_Go YM mX6_gates (D + 1) z_i 4 [some (zR 0), some (zI l1), some (zI l2)] [] σ (fX6_gates_4 q l1 l2 σ) := by
  intro q
  induction q with
  | zero => intros; exact z_none
  | succ q ih =>
    intro l1 l2 σ
    rw [fX6_gates_4]
    refine z_iload_n (pc := 4) dX6_gates_4 rfl rfl ?_
    refine z_aload_n (pc := 5) dX6_gates_5 rfl rfl ?_
    refine gfX6_12 (pc := 6) dX6_gates_6 ym_0 w_12_16 rfl ?_
    refine z_icmp_ge (tgt := 42) (pc := 9) dX6_gates_9 (by decide) (fun _ => ?_) (fun _ => ?_)
    · refine z_iload_n (pc := 42) dX6_gates_42 rfl rfl ?_
      exact z_iret (pc := 43) dX6_gates_43 rfl rfl
    · refine z_aload_n (pc := 12) dX6_gates_12 rfl rfl ?_
      refine gfX6_12 (pc := 13) dX6_gates_13 ym_0 w_12_16 rfl ?_
      refine z_iconst_1 (pc := 16) dX6_gates_16 ?_
      refine z_icmp_le (tgt := 42) (pc := 17) dX6_gates_17 (by decide) (fun _ => ?_) (fun _ => ?_)
      · refine z_iload_n (pc := 42) dX6_gates_42 rfl rfl ?_
        exact z_iret (pc := 43) dX6_gates_43 rfl rfl
      · refine z_iload_n (pc := 20) dX6_gates_20 rfl rfl ?_
        refine z_aload_n (pc := 21) dX6_gates_21 rfl rfl ?_
        refine z_iload_n (pc := 22) dX6_gates_22 rfl rfl ?_
        refine z_V1i (pc := 23) dX6_gates_23 lVX6_125 ym_0 rfl (Nat.le_of_ble_eq_true rfl) (kX6_hold l2 σ D (by omega)) (fun r1 s1 => ?_)
        refine z_if_ne (tgt := 33) (pc := 26) dX6_gates_26 (by decide) (fun _ => ?_) (fun _ => ?_)
        · refine z_iconst_0 (pc := 33) dX6_gates_33 ?_
          refine z_iadd (pc := 34) dX6_gates_34 ?_
          refine z_istore_n (pc := 35) dX6_gates_35 rfl (Nat.le_of_ble_eq_true rfl) (z_so3_1 rfl) ?_
          refine z_iinc (y := 1) (pc := 36) dX6_gates_36 rfl (by decide) (Nat.le_of_ble_eq_true rfl) (z_so3_2 rfl) ?_
          refine z_goto (tgt := 4) (pc := 39) dX6_gates_39 (by decide) ?_
          exact ih (l1 + (0 : Int32)) (l2 + 1) s1
        · refine z_iconst_1 (pc := 29) dX6_gates_29 ?_
          refine z_goto (tgt := 34) (pc := 30) dX6_gates_30 (by decide) ?_
          refine z_iadd (pc := 34) dX6_gates_34 ?_
          refine z_istore_n (pc := 35) dX6_gates_35 rfl (Nat.le_of_ble_eq_true rfl) (z_so3_1 rfl) ?_
          refine z_iinc (y := 1) (pc := 36) dX6_gates_36 rfl (by decide) (Nat.le_of_ble_eq_true rfl) (z_so3_2 rfl) ?_
          refine z_goto (tgt := 4) (pc := 39) dX6_gates_39 (by decide) ?_
          exact ih (l1 + (1 : Int32)) (l2 + 1) s1
def fX6_gates   (σ : z_Mem) : Option (Int32 × z_Mem) :=
  fX6_gates_4 z_FU (0 : Int32) (0 : Int32) σ
theorem kX6_gates    (σ : z_Mem) (D : Nat) (hD : 74 ≤ D) : z_Call YM mX6_gates D z_i [zR 0] σ (fX6_gates σ) := by
  obtain ⟨D, rfl⟩ : ∃ E, D = E + 1 := ⟨D - 1, by omega⟩
  replace hD : 73 ≤ D := by omega
  refine z_entry (lv := [some (zR 0), none, none]) (by decide) rfl (Nat.le_of_ble_eq_true rfl) rfl ?_
  rw [fX6_gates]
  refine z_iconst_0 (pc := 0) dX6_gates_0 ?_
  refine z_istore_n (pc := 1) dX6_gates_1 rfl (Nat.le_of_ble_eq_true rfl) (z_so3_1 rfl) ?_
  refine z_iconst_0 (pc := 2) dX6_gates_2 ?_
  refine z_istore_n (pc := 3) dX6_gates_3 rfl (Nat.le_of_ble_eq_true rfl) (z_so3_2 rfl) ?_
  exact kX6_gates_4 D  hD z_FU (0 : Int32) (0 : Int32) σ
def fX6_firstGate_9  : Nat → Int32 → Int32 → z_Mem → Option (Int32 × z_Mem)
  | 0, _, _, _ => none
  | q + 1, l1, l2, σ => if l2 < 0 then (some (l1, σ)) else (if σ.1 0 12 ≤ (1 : Int32) then (some (l1, σ)) else (z_bd (fX6_hold l2 σ) (fun r1 s1 => if r1 = 0 then (fX6_firstGate_9  q l2 (l2 + (-1 : Int32)) s1) else (fX6_firstGate_9  q l1 (l2 + (-1 : Int32)) s1))))
theorem kX6_firstGate_9 (D : Nat)   (hD : 73 ≤ D) : ∀ (q : Nat) (l1 : Int32) (l2 : Int32)  (σ : z_Mem), z_Go YM mX6_firstGate (D + 1) z_i 9 [some (zR 0), some (zI l1), some (zI l2)] [] σ (fX6_firstGate_9 q l1 l2 σ) := by
  intro q
  induction q with
  | zero => intros; exact z_none
  | succ q ih =>
    intro l1 l2 σ
    rw [fX6_firstGate_9]
    refine z_iload_n (pc := 9) dX6_firstGate_9 rfl rfl ?_
    refine z_if_lt (tgt := 41) (pc := 10) dX6_firstGate_10 (by decide) (fun _ => ?_) (fun _ => ?_)
    · refine z_iload_n (pc := 41) dX6_firstGate_41 rfl rfl ?_
      exact z_iret (pc := 42) dX6_firstGate_42 rfl rfl
    · refine z_aload_n (pc := 13) dX6_firstGate_13 rfl rfl ?_
      refine gfX6_12 (pc := 14) dX6_firstGate_14 ym_0 w_12_16 rfl ?_
      refine z_iconst_1 (pc := 17) dX6_firstGate_17 ?_
      refine z_icmp_le (tgt := 41) (pc := 18) dX6_firstGate_18 (by decide) (fun _ => ?_) (fun _ => ?_)
      · refine z_iload_n (pc := 41) dX6_firstGate_41 rfl rfl ?_
        exact z_iret (pc := 42) dX6_firstGate_42 rfl rfl
      · refine z_aload_n (pc := 21) dX6_firstGate_21 rfl rfl ?_
        refine z_iload_n (pc := 22) dX6_firstGate_22 rfl rfl ?_
        refine z_V1i (pc := 23) dX6_firstGate_23 lVX6_125 ym_0 rfl (Nat.le_of_ble_eq_true rfl) (kX6_hold l2 σ D (by omega)) (fun r1 s1 => ?_)
        refine z_if_ne (tgt := 33) (pc := 26) dX6_firstGate_26 (by decide) (fun _ => ?_) (fun _ => ?_)
        · refine z_iload_n (pc := 33) dX6_firstGate_33 rfl rfl ?_
          refine z_istore_n (pc := 34) dX6_firstGate_34 rfl (Nat.le_of_ble_eq_true rfl) (z_so3_1 rfl) ?_
          refine z_iinc (y := -1) (pc := 35) dX6_firstGate_35 rfl (by decide) (Nat.le_of_ble_eq_true rfl) (z_so3_2 rfl) ?_
          refine z_goto (tgt := 9) (pc := 38) dX6_firstGate_38 (by decide) ?_
          exact ih l1 (l2 + (-1 : Int32)) s1
        · refine z_iload_n (pc := 29) dX6_firstGate_29 rfl rfl ?_
          refine z_goto (tgt := 34) (pc := 30) dX6_firstGate_30 (by decide) ?_
          refine z_istore_n (pc := 34) dX6_firstGate_34 rfl (Nat.le_of_ble_eq_true rfl) (z_so3_1 rfl) ?_
          refine z_iinc (y := -1) (pc := 35) dX6_firstGate_35 rfl (by decide) (Nat.le_of_ble_eq_true rfl) (z_so3_2 rfl) ?_
          refine z_goto (tgt := 9) (pc := 38) dX6_firstGate_38 (by decide) ?_
          exact ih l2 (l2 + (-1 : Int32)) s1
def fX6_firstGate   (σ : z_Mem) : Option (Int32 × z_Mem) :=
  fX6_firstGate_9 z_FU (-1 : Int32) ((σ.1 0 12) - (1 : Int32)) σ
theorem kX6_firstGate    (σ : z_Mem) (D : Nat) (hD : 74 ≤ D) : z_Call YM mX6_firstGate D z_i [zR 0] σ (fX6_firstGate σ) := by
  obtain ⟨D, rfl⟩ : ∃ E, D = E + 1 := ⟨D - 1, by omega⟩
  replace hD : 73 ≤ D := by omega
  refine z_entry (lv := [some (zR 0), none, none]) (by decide) rfl (Nat.le_of_ble_eq_true rfl) rfl ?_
  rw [fX6_firstGate]
  refine z_iconst_m1 (pc := 0) dX6_firstGate_0 ?_
  refine z_istore_n (pc := 1) dX6_firstGate_1 rfl (Nat.le_of_ble_eq_true rfl) (z_so3_1 rfl) ?_
  refine z_aload_n (pc := 2) dX6_firstGate_2 rfl rfl ?_
  refine gfX6_12 (pc := 3) dX6_firstGate_3 ym_0 w_12_16 rfl ?_
  refine z_iconst_1 (pc := 6) dX6_firstGate_6 ?_
  refine z_isub (pc := 7) dX6_firstGate_7 ?_
  refine z_istore_n (pc := 8) dX6_firstGate_8 rfl (Nat.le_of_ble_eq_true rfl) (z_so3_2 rfl) ?_
  exact kX6_firstGate_9 D  hD z_FU (-1 : Int32) ((σ.1 0 12) - (1 : Int32)) σ
def fX6_wall  (a1 : Int32) (σ : z_Mem) : Option (Int32 × z_Mem) :=
  z_bd (fX6_in a1.toInt64 (0 : Int64) (3 : Int64) σ) (fun r1 s1 => if r1 = 0 then (some ((-2 : Int32), s1)) else (if a1 = 0 then (z_bd (fX6_weakest s1) (fun r4 s4 => some (r4, s4))) else (if a1 = (1 : Int32) then (z_bd (fX6_gates s1) (fun r3 s3 => some (r3, s3))) else (if a1 = (2 : Int32) then (z_bd (fX6_firstGate s1) (fun r2 s2 => some (r2, s2))) else (some (s1.1 0 12, s1))))))
theorem kX6_wall   (a1 : Int32) (σ : z_Mem) (D : Nat) (hD : 75 ≤ D) : z_Call YM mX6_wall D z_i [zR 0, zI a1] σ (fX6_wall a1 σ) := by
  obtain ⟨D, rfl⟩ : ∃ E, D = E + 1 := ⟨D - 1, by omega⟩
  replace hD : 74 ≤ D := by omega
  refine z_entry (lv := [some (zR 0), some (zI a1)]) (by decide) rfl (Nat.le_of_ble_eq_true rfl) rfl ?_
  rw [fX6_wall]
  refine z_iload_n (pc := 0) dX6_wall_0 rfl rfl ?_
  refine z_i2l (pc := 1) dX6_wall_1 ?_
  refine z_lconst (v := 0) (pc := 2) dX6_wall_2 rfl ?_
  refine z_ldc2 (v := 3) (pc := 3) dX6_wall_3 w_12_8 ?_
  refine z_S3i (pc := 6) dX6_wall_6 lSX6_70 (Nat.le_of_ble_eq_true rfl) (kX6_in a1.toInt64 (0 : Int64) (3 : Int64) σ D (by omega)) (fun r1 s1 => ?_)
  refine z_if_ne (tgt := 15) (pc := 9) dX6_wall_9 (by decide) (fun _ => ?_) (fun _ => ?_)
  · refine z_iload_n (pc := 15) dX6_wall_15 rfl rfl ?_
    refine z_if_ne (tgt := 26) (pc := 16) dX6_wall_16 (by decide) (fun _ => ?_) (fun _ => ?_)
    · refine z_iload_n (pc := 26) dX6_wall_26 rfl rfl ?_
      refine z_iconst_1 (pc := 27) dX6_wall_27 ?_
      refine z_icmp_ne (tgt := 38) (pc := 28) dX6_wall_28 (by decide) (fun _ => ?_) (fun _ => ?_)
      · refine z_iload_n (pc := 38) dX6_wall_38 rfl rfl ?_
        refine z_iconst_2 (pc := 39) dX6_wall_39 ?_
        refine z_icmp_ne (tgt := 50) (pc := 40) dX6_wall_40 (by decide) (fun _ => ?_) (fun _ => ?_)
        · refine z_aload_n (pc := 50) dX6_wall_50 rfl rfl ?_
          refine gfX6_12 (pc := 51) dX6_wall_51 ym_0 w_12_16 rfl ?_
          exact z_iret (pc := 54) dX6_wall_54 rfl rfl
        · refine z_aload_n (pc := 43) dX6_wall_43 rfl rfl ?_
          refine z_V0i (pc := 44) dX6_wall_44 lVX6_268 ym_0 rfl (Nat.le_of_ble_eq_true rfl) (kX6_firstGate s1 D (by omega)) (fun r2 s2 => ?_)
          refine z_goto (tgt := 54) (pc := 47) dX6_wall_47 (by decide) ?_
          exact z_iret (pc := 54) dX6_wall_54 rfl rfl
      · refine z_aload_n (pc := 31) dX6_wall_31 rfl rfl ?_
        refine z_V0i (pc := 32) dX6_wall_32 lVX6_265 ym_0 rfl (Nat.le_of_ble_eq_true rfl) (kX6_gates s1 D (by omega)) (fun r3 s3 => ?_)
        refine z_goto (tgt := 54) (pc := 35) dX6_wall_35 (by decide) ?_
        exact z_iret (pc := 54) dX6_wall_54 rfl rfl
    · refine z_aload_n (pc := 19) dX6_wall_19 rfl rfl ?_
      refine z_V0i (pc := 20) dX6_wall_20 lVX6_262 ym_0 rfl (Nat.le_of_ble_eq_true rfl) (kX6_weakest s1 D (by omega)) (fun r4 s4 => ?_)
      refine z_goto (tgt := 54) (pc := 23) dX6_wall_23 (by decide) ?_
      exact z_iret (pc := 54) dX6_wall_54 rfl rfl
  · refine z_bipush_m2 (pc := 12) dX6_wall_12 ?_
    exact z_iret (pc := 14) dX6_wall_14 rfl rfl
def fX6_closesUp_12  : Nat → Int32 → z_Mem → Option (Unit × z_Mem)
  | 0, _, _ => none
  | q + 1, l2, σ => if σ.1 0 12 ≤ l2 then (some ((), σ)) else (z_gd (z_in (l2 + (1 : Int32)) 6) (z_gd (z_in l2 6) (z_st (z_pt σ 5 (z_x l2) (σ.1 5 (z_x (l2 + (1 : Int32))))) (fun s2 => fX6_closesUp_12  q (l2 + 1) s2))))
theorem kX6_closesUp_12 (D : Nat)   (hD : 0 ≤ D) : ∀ (q : Nat) (l2 : Int32)  (σ : z_Mem), z_Go YM mX6_closesUp (D + 1) z_u 12 [some (zR 0), none, some (zI l2)] [] σ (fX6_closesUp_12 q l2 σ) := by
  intro q
  induction q with
  | zero => intros; exact z_none
  | succ q ih =>
    intro l2 σ
    rw [fX6_closesUp_12]
    refine z_iload_n (pc := 12) dX6_closesUp_12 rfl rfl ?_
    refine z_aload_n (pc := 13) dX6_closesUp_13 rfl rfl ?_
    refine gfX6_12 (pc := 14) dX6_closesUp_14 ym_0 w_12_16 rfl ?_
    refine z_icmp_ge (tgt := 40) (pc := 17) dX6_closesUp_17 (by decide) (fun _ => ?_) (fun _ => ?_)
    · exact z_vret (pc := 40) dX6_closesUp_40 rfl
    · refine z_aload_n (pc := 20) dX6_closesUp_20 rfl rfl ?_
      refine gfX6_11 (pc := 21) dX6_closesUp_21 ym_0 w_10_11 rfl ?_
      refine z_iload_n (pc := 24) dX6_closesUp_24 rfl rfl ?_
      refine z_aload_n (pc := 25) dX6_closesUp_25 rfl rfl ?_
      refine gfX6_11 (pc := 26) dX6_closesUp_26 ym_0 w_10_11 rfl ?_
      refine z_iload_n (pc := 29) dX6_closesUp_29 rfl rfl ?_
      refine z_iconst_1 (pc := 30) dX6_closesUp_30 ?_
      refine z_iadd (pc := 31) dX6_closesUp_31 ?_
      refine z_iald (pc := 32) dX6_closesUp_32 ym_5 ?_
      refine z_iast (pc := 33) dX6_closesUp_33 ym_5 ?_
      refine z_let (fun s2 => ?_)
      refine z_iinc (y := 1) (pc := 34) dX6_closesUp_34 rfl (by decide) (Nat.le_of_ble_eq_true rfl) (z_so3_2 rfl) ?_
      refine z_goto (tgt := 12) (pc := 37) dX6_closesUp_37 (by decide) ?_
      exact ih (l2 + 1) s2
def fX6_closesUp  (a1 : Int32) (σ : z_Mem) : Option (Unit × z_Mem) :=
  z_st (z_pt σ 0 12 ((σ.1 0 12) - (1 : Int32))) (fun s1 => fX6_closesUp_12 z_FU a1 s1)
theorem kX6_closesUp   (a1 : Int32) (σ : z_Mem) (D : Nat) (hD : 1 ≤ D) : z_Call YM mX6_closesUp D z_u [zR 0, zI a1] σ (fX6_closesUp a1 σ) := by
  obtain ⟨D, rfl⟩ : ∃ E, D = E + 1 := ⟨D - 1, by omega⟩
  replace hD : 0 ≤ D := by omega
  refine z_entry (lv := [some (zR 0), some (zI a1), none]) (by decide) rfl (Nat.le_of_ble_eq_true rfl) rfl ?_
  rw [fX6_closesUp]
  refine z_aload_n (pc := 0) dX6_closesUp_0 rfl rfl ?_
  refine z_dup (pc := 1) dX6_closesUp_1 rfl ?_
  refine gfX6_12 (pc := 2) dX6_closesUp_2 ym_0 w_12_16 rfl ?_
  refine z_iconst_1 (pc := 5) dX6_closesUp_5 ?_
  refine z_isub (pc := 6) dX6_closesUp_6 ?_
  refine pfX6_12 (pc := 7) dX6_closesUp_7 ym_0 w_12_16 rfl ?_
  refine z_let (fun s1 => ?_)
  refine z_iload_n (pc := 10) dX6_closesUp_10 rfl rfl ?_
  refine z_istore_n (pc := 11) dX6_closesUp_11 rfl (Nat.le_of_ble_eq_true rfl) (z_so3_2 rfl) ?_
  exact z_weak (lv' := [some (zR 0), none, some (zI a1)]) (z_sub_ok ⟨rfl, rfl, trivial⟩) (kX6_closesUp_12 D  hD z_FU a1 s1)
def fX6_stands_5  : Nat → Int32 → Int32 → Int32 → z_Mem → Option (Unit × z_Mem)
  | 0, _, _, _, _ => none
  | q + 1, l1, l2, l3, σ => if l3 ≤ l2 then (z_gd (z_in l2 6) (z_st (z_pt σ 5 (z_x l2) l1) (fun s1 => z_st (z_pt s1 0 12 ((s1.1 0 12) + (1 : Int32))) (fun s2 => some ((), s2))))) else (z_gd (z_in (l3 - (1 : Int32)) 6) (z_gd (z_in l3 6) (z_st (z_pt σ 5 (z_x l3) (σ.1 5 (z_x (l3 - (1 : Int32))))) (fun s3 => fX6_stands_5  q l1 l2 (l3 + (-1 : Int32)) s3))))
theorem kX6_stands_5 (D : Nat)   (hD : 0 ≤ D) : ∀ (q : Nat) (l1 : Int32) (l2 : Int32) (l3 : Int32)  (σ : z_Mem), z_Go YM mX6_stands (D + 1) z_u 5 [some (zR 0), some (zI l1), some (zI l2), some (zI l3)] [] σ (fX6_stands_5 q l1 l2 l3 σ) := by
  intro q
  induction q with
  | zero => intros; exact z_none
  | succ q ih =>
    intro l1 l2 l3 σ
    rw [fX6_stands_5]
    refine z_iload_n (pc := 5) dX6_stands_5 rfl rfl ?_
    refine z_iload_n (pc := 6) dX6_stands_6 rfl rfl ?_
    refine z_icmp_le (tgt := 30) (pc := 7) dX6_stands_7 (by decide) (fun _ => ?_) (fun _ => ?_)
    · refine z_aload_n (pc := 30) dX6_stands_30 rfl rfl ?_
      refine gfX6_11 (pc := 31) dX6_stands_31 ym_0 w_10_11 rfl ?_
      refine z_iload_n (pc := 34) dX6_stands_34 rfl rfl ?_
      refine z_iload_n (pc := 35) dX6_stands_35 rfl rfl ?_
      refine z_iast (pc := 36) dX6_stands_36 ym_5 ?_
      refine z_let (fun s1 => ?_)
      refine z_aload_n (pc := 37) dX6_stands_37 rfl rfl ?_
      refine z_dup (pc := 38) dX6_stands_38 rfl ?_
      refine gfX6_12 (pc := 39) dX6_stands_39 ym_0 w_12_16 rfl ?_
      refine z_iconst_1 (pc := 42) dX6_stands_42 ?_
      refine z_iadd (pc := 43) dX6_stands_43 ?_
      refine pfX6_12 (pc := 44) dX6_stands_44 ym_0 w_12_16 rfl ?_
      refine z_let (fun s2 => ?_)
      exact z_vret (pc := 47) dX6_stands_47 rfl
    · refine z_aload_n (pc := 10) dX6_stands_10 rfl rfl ?_
      refine gfX6_11 (pc := 11) dX6_stands_11 ym_0 w_10_11 rfl ?_
      refine z_iload_n (pc := 14) dX6_stands_14 rfl rfl ?_
      refine z_aload_n (pc := 15) dX6_stands_15 rfl rfl ?_
      refine gfX6_11 (pc := 16) dX6_stands_16 ym_0 w_10_11 rfl ?_
      refine z_iload_n (pc := 19) dX6_stands_19 rfl rfl ?_
      refine z_iconst_1 (pc := 20) dX6_stands_20 ?_
      refine z_isub (pc := 21) dX6_stands_21 ?_
      refine z_iald (pc := 22) dX6_stands_22 ym_5 ?_
      refine z_iast (pc := 23) dX6_stands_23 ym_5 ?_
      refine z_let (fun s3 => ?_)
      refine z_iinc (y := -1) (pc := 24) dX6_stands_24 rfl (by decide) (Nat.le_of_ble_eq_true rfl) (z_so4_3 rfl) ?_
      refine z_goto (tgt := 5) (pc := 27) dX6_stands_27 (by decide) ?_
      exact ih l1 l2 (l3 + (-1 : Int32)) s3
def fX6_stands  (a1 : Int32) (a2 : Int32) (σ : z_Mem) : Option (Unit × z_Mem) :=
  fX6_stands_5 z_FU a1 a2 (σ.1 0 12) σ
theorem kX6_stands   (a1 : Int32) (a2 : Int32) (σ : z_Mem) (D : Nat) (hD : 1 ≤ D) : z_Call YM mX6_stands D z_u [zR 0, zI a1, zI a2] σ (fX6_stands a1 a2 σ) := by
  obtain ⟨D, rfl⟩ : ∃ E, D = E + 1 := ⟨D - 1, by omega⟩
  replace hD : 0 ≤ D := by omega
  refine z_entry (lv := [some (zR 0), some (zI a1), some (zI a2), none]) (by decide) rfl (Nat.le_of_ble_eq_true rfl) rfl ?_
  rw [fX6_stands]
  refine z_aload_n (pc := 0) dX6_stands_0 rfl rfl ?_
  refine gfX6_12 (pc := 1) dX6_stands_1 ym_0 w_12_16 rfl ?_
  refine z_istore_n (pc := 4) dX6_stands_4 rfl (Nat.le_of_ble_eq_true rfl) (z_so4_3 rfl) ?_
  exact kX6_stands_5 D  hD z_FU a1 a2 (σ.1 0 12) σ
def fX6_out  (a1 : Int32) (σ : z_Mem) : Option (Int32 × z_Mem) :=
  z_bd (fX6_isOne a1 σ) (fun r1 s1 => if r1 = 0 then (some ((-2 : Int32), s1)) else (z_bd (fX6_placeOf a1 s1) (fun r2 s2 => if r2 = (-1 : Int32) then (some ((-3 : Int32), s2)) else (z_bd (fX6_closesUp r2 s2) (fun _ s3 => some (r2, s3))))))
theorem kX6_out   (a1 : Int32) (σ : z_Mem) (D : Nat) (hD : 3 ≤ D) : z_Call YM mX6_out D z_i [zR 0, zI a1] σ (fX6_out a1 σ) := by
  obtain ⟨D, rfl⟩ : ∃ E, D = E + 1 := ⟨D - 1, by omega⟩
  replace hD : 2 ≤ D := by omega
  refine z_entry (lv := [some (zR 0), some (zI a1), none]) (by decide) rfl (Nat.le_of_ble_eq_true rfl) rfl ?_
  rw [fX6_out]
  refine z_aload_n (pc := 0) dX6_out_0 rfl rfl ?_
  refine z_iload_n (pc := 1) dX6_out_1 rfl rfl ?_
  refine z_V1i (pc := 2) dX6_out_2 lVX6_74 ym_0 rfl (Nat.le_of_ble_eq_true rfl) (kX6_isOne a1 σ D (by omega)) (fun r1 s1 => ?_)
  refine z_if_ne (tgt := 11) (pc := 5) dX6_out_5 (by decide) (fun _ => ?_) (fun _ => ?_)
  · refine z_aload_n (pc := 11) dX6_out_11 rfl rfl ?_
    refine z_iload_n (pc := 12) dX6_out_12 rfl rfl ?_
    refine z_V1i (pc := 13) dX6_out_13 lVX6_119 ym_0 rfl (Nat.le_of_ble_eq_true rfl) (kX6_placeOf a1 s1 D (by omega)) (fun r2 s2 => ?_)
    refine z_istore_n (pc := 16) dX6_out_16 rfl (Nat.le_of_ble_eq_true rfl) (z_so3_2 rfl) ?_
    refine z_iload_n (pc := 17) dX6_out_17 rfl rfl ?_
    refine z_iconst_m1 (pc := 18) dX6_out_18 ?_
    refine z_icmp_ne (tgt := 25) (pc := 19) dX6_out_19 (by decide) (fun _ => ?_) (fun _ => ?_)
    · refine z_aload_n (pc := 25) dX6_out_25 rfl rfl ?_
      refine z_iload_n (pc := 26) dX6_out_26 rfl rfl ?_
      refine z_V1u (pc := 27) dX6_out_27 lVX6_271 ym_0 rfl (Nat.le_of_ble_eq_true rfl) (kX6_closesUp r2 s2 D (by omega)) (fun _ s3 => ?_)
      refine z_iload_n (pc := 30) dX6_out_30 rfl rfl ?_
      exact z_iret (pc := 31) dX6_out_31 rfl rfl
    · refine z_bipush_m3 (pc := 22) dX6_out_22 ?_
      exact z_iret (pc := 24) dX6_out_24 rfl rfl
  · refine z_bipush_m2 (pc := 8) dX6_out_8 ?_
    exact z_iret (pc := 10) dX6_out_10 rfl rfl
def fX6_into  (a1 : Int32) (a2 : Int32) (σ : z_Mem) : Option (Int32 × z_Mem) :=
  z_bd (fX6_isOne a1 σ) (fun r1 s1 => if r1 = 0 then (some ((-2 : Int32), s1)) else (z_bd (fX6_in a2.toInt64 (0 : Int64) ((s1.1 0 12).toInt64) s1) (fun r2 s2 => if r2 = 0 then (some ((-2 : Int32), s2)) else (z_bd (fX6_placeOf a1 s2) (fun r3 s3 => if r3 = (-1 : Int32) then (z_bd (fX6_stands a1 a2 s3) (fun _ s4 => some (s4.1 0 12, s4))) else (some ((-3 : Int32), s3)))))))
theorem kX6_into   (a1 : Int32) (a2 : Int32) (σ : z_Mem) (D : Nat) (hD : 3 ≤ D) : z_Call YM mX6_into D z_i [zR 0, zI a1, zI a2] σ (fX6_into a1 a2 σ) := by
  obtain ⟨D, rfl⟩ : ∃ E, D = E + 1 := ⟨D - 1, by omega⟩
  replace hD : 2 ≤ D := by omega
  refine z_entry (lv := [some (zR 0), some (zI a1), some (zI a2)]) (by decide) rfl (Nat.le_of_ble_eq_true rfl) rfl ?_
  rw [fX6_into]
  refine z_aload_n (pc := 0) dX6_into_0 rfl rfl ?_
  refine z_iload_n (pc := 1) dX6_into_1 rfl rfl ?_
  refine z_V1i (pc := 2) dX6_into_2 lVX6_74 ym_0 rfl (Nat.le_of_ble_eq_true rfl) (kX6_isOne a1 σ D (by omega)) (fun r1 s1 => ?_)
  refine z_if_eq (tgt := 22) (pc := 5) dX6_into_5 (by decide) (fun _ => ?_) (fun _ => ?_)
  · refine z_bipush_m2 (pc := 22) dX6_into_22 ?_
    exact z_iret (pc := 24) dX6_into_24 rfl rfl
  · refine z_iload_n (pc := 8) dX6_into_8 rfl rfl ?_
    refine z_i2l (pc := 9) dX6_into_9 ?_
    refine z_lconst (v := 0) (pc := 10) dX6_into_10 rfl ?_
    refine z_aload_n (pc := 11) dX6_into_11 rfl rfl ?_
    refine gfX6_12 (pc := 12) dX6_into_12 ym_0 w_12_16 rfl ?_
    refine z_i2l (pc := 15) dX6_into_15 ?_
    refine z_S3i (pc := 16) dX6_into_16 lSX6_70 (Nat.le_of_ble_eq_true rfl) (kX6_in a2.toInt64 (0 : Int64) ((s1.1 0 12).toInt64) s1 D (by omega)) (fun r2 s2 => ?_)
    refine z_if_ne (tgt := 25) (pc := 19) dX6_into_19 (by decide) (fun _ => ?_) (fun _ => ?_)
    · refine z_aload_n (pc := 25) dX6_into_25 rfl rfl ?_
      refine z_iload_n (pc := 26) dX6_into_26 rfl rfl ?_
      refine z_V1i (pc := 27) dX6_into_27 lVX6_119 ym_0 rfl (Nat.le_of_ble_eq_true rfl) (kX6_placeOf a1 s2 D (by omega)) (fun r3 s3 => ?_)
      refine z_iconst_m1 (pc := 30) dX6_into_30 ?_
      refine z_icmp_eq (tgt := 37) (pc := 31) dX6_into_31 (by decide) (fun _ => ?_) (fun _ => ?_)
      · refine z_aload_n (pc := 37) dX6_into_37 rfl rfl ?_
        refine z_iload_n (pc := 38) dX6_into_38 rfl rfl ?_
        refine z_iload_n (pc := 39) dX6_into_39 rfl rfl ?_
        refine z_V2u (pc := 40) dX6_into_40 lVX6_275 ym_0 rfl (Nat.le_of_ble_eq_true rfl) (kX6_stands a1 a2 s3 D (by omega)) (fun _ s4 => ?_)
        refine z_aload_n (pc := 43) dX6_into_43 rfl rfl ?_
        refine gfX6_12 (pc := 44) dX6_into_44 ym_0 w_12_16 rfl ?_
        exact z_iret (pc := 47) dX6_into_47 rfl rfl
      · refine z_bipush_m3 (pc := 34) dX6_into_34 ?_
        exact z_iret (pc := 36) dX6_into_36 rfl rfl
    · refine z_bipush_m2 (pc := 22) dX6_into_22 ?_
      exact z_iret (pc := 24) dX6_into_24 rfl rfl
def fX6_change  (a1 : Int32) (a2 : Int32) (σ : z_Mem) : Option (Unit × z_Mem) :=
  z_gd (z_in a1 6) (z_gd (z_in a2 6) (z_gd (z_in a1 6) (z_st (z_pt σ 5 (z_x a1) (σ.1 5 (z_x a2))) (fun s1 => z_gd (z_in a2 6) (z_st (z_pt s1 5 (z_x a2) (σ.1 5 (z_x a1))) (fun s2 => some ((), s2)))))))
theorem kX6_change   (a1 : Int32) (a2 : Int32) (σ : z_Mem) (D : Nat) (hD : 1 ≤ D) : z_Call YM mX6_change D z_u [zR 0, zI a1, zI a2] σ (fX6_change a1 a2 σ) := by
  obtain ⟨D, rfl⟩ : ∃ E, D = E + 1 := ⟨D - 1, by omega⟩
  replace hD : 0 ≤ D := by omega
  refine z_entry (lv := [some (zR 0), some (zI a1), some (zI a2), none]) (by decide) rfl (Nat.le_of_ble_eq_true rfl) rfl ?_
  rw [fX6_change]
  refine z_aload_n (pc := 0) dX6_change_0 rfl rfl ?_
  refine gfX6_11 (pc := 1) dX6_change_1 ym_0 w_10_11 rfl ?_
  refine z_iload_n (pc := 4) dX6_change_4 rfl rfl ?_
  refine z_iald (pc := 5) dX6_change_5 ym_5 ?_
  refine z_istore_n (pc := 6) dX6_change_6 rfl (Nat.le_of_ble_eq_true rfl) (z_so4_3 rfl) ?_
  refine z_aload_n (pc := 7) dX6_change_7 rfl rfl ?_
  refine gfX6_11 (pc := 8) dX6_change_8 ym_0 w_10_11 rfl ?_
  refine z_iload_n (pc := 11) dX6_change_11 rfl rfl ?_
  refine z_aload_n (pc := 12) dX6_change_12 rfl rfl ?_
  refine gfX6_11 (pc := 13) dX6_change_13 ym_0 w_10_11 rfl ?_
  refine z_iload_n (pc := 16) dX6_change_16 rfl rfl ?_
  refine z_iald (pc := 17) dX6_change_17 ym_5 ?_
  refine z_iast (pc := 18) dX6_change_18 ym_5 ?_
  refine z_let (fun s1 => ?_)
  refine z_aload_n (pc := 19) dX6_change_19 rfl rfl ?_
  refine gfX6_11 (pc := 20) dX6_change_20 ym_0 w_10_11 rfl ?_
  refine z_iload_n (pc := 23) dX6_change_23 rfl rfl ?_
  refine z_iload_n (pc := 24) dX6_change_24 rfl rfl ?_
  refine z_iast (pc := 25) dX6_change_25 ym_5 ?_
  refine z_let (fun s2 => ?_)
  exact z_vret (pc := 26) dX6_change_26 rfl
def fX6_swap  (a1 : Int32) (a2 : Int32) (σ : z_Mem) : Option (Int32 × z_Mem) :=
  z_bd (fX6_areTwo a1 a2 σ) (fun r1 s1 => if r1 = 0 then (some ((-2 : Int32), s1)) else (z_bd (fX6_placeOf a1 s1) (fun r2 s2 => if r2 = (-1 : Int32) then (some ((-2 : Int32), s2)) else (z_bd (fX6_placeOf a2 s2) (fun r3 s3 => if r3 = (-1 : Int32) then (some ((-2 : Int32), s3)) else (z_bd (fX6_placeOf a1 s3) (fun r4 s4 => z_bd (fX6_placeOf a2 s4) (fun r5 s5 => z_bd (fX6_change r4 r5 s5) (fun _ s6 => z_bd (fX6_weakest s6) (fun r7 s7 => some (r7, s7)))))))))))
theorem kX6_swap   (a1 : Int32) (a2 : Int32) (σ : z_Mem) (D : Nat) (hD : 75 ≤ D) : z_Call YM mX6_swap D z_i [zR 0, zI a1, zI a2] σ (fX6_swap a1 a2 σ) := by
  obtain ⟨D, rfl⟩ : ∃ E, D = E + 1 := ⟨D - 1, by omega⟩
  replace hD : 74 ≤ D := by omega
  refine z_entry (lv := [some (zR 0), some (zI a1), some (zI a2)]) (by decide) rfl (Nat.le_of_ble_eq_true rfl) rfl ?_
  rw [fX6_swap]
  refine z_aload_n (pc := 0) dX6_swap_0 rfl rfl ?_
  refine z_iload_n (pc := 1) dX6_swap_1 rfl rfl ?_
  refine z_iload_n (pc := 2) dX6_swap_2 rfl rfl ?_
  refine z_V2i (pc := 3) dX6_swap_3 lVX6_253 ym_0 rfl (Nat.le_of_ble_eq_true rfl) (kX6_areTwo a1 a2 σ D (by omega)) (fun r1 s1 => ?_)
  refine z_if_eq (tgt := 27) (pc := 6) dX6_swap_6 (by decide) (fun _ => ?_) (fun _ => ?_)
  · refine z_bipush_m2 (pc := 27) dX6_swap_27 ?_
    exact z_iret (pc := 29) dX6_swap_29 rfl rfl
  · refine z_aload_n (pc := 9) dX6_swap_9 rfl rfl ?_
    refine z_iload_n (pc := 10) dX6_swap_10 rfl rfl ?_
    refine z_V1i (pc := 11) dX6_swap_11 lVX6_119 ym_0 rfl (Nat.le_of_ble_eq_true rfl) (kX6_placeOf a1 s1 D (by omega)) (fun r2 s2 => ?_)
    refine z_iconst_m1 (pc := 14) dX6_swap_14 ?_
    refine z_icmp_eq (tgt := 27) (pc := 15) dX6_swap_15 (by decide) (fun _ => ?_) (fun _ => ?_)
    · refine z_bipush_m2 (pc := 27) dX6_swap_27 ?_
      exact z_iret (pc := 29) dX6_swap_29 rfl rfl
    · refine z_aload_n (pc := 18) dX6_swap_18 rfl rfl ?_
      refine z_iload_n (pc := 19) dX6_swap_19 rfl rfl ?_
      refine z_V1i (pc := 20) dX6_swap_20 lVX6_119 ym_0 rfl (Nat.le_of_ble_eq_true rfl) (kX6_placeOf a2 s2 D (by omega)) (fun r3 s3 => ?_)
      refine z_iconst_m1 (pc := 23) dX6_swap_23 ?_
      refine z_icmp_ne (tgt := 30) (pc := 24) dX6_swap_24 (by decide) (fun _ => ?_) (fun _ => ?_)
      · refine z_aload_n (pc := 30) dX6_swap_30 rfl rfl ?_
        refine z_aload_n (pc := 31) dX6_swap_31 rfl rfl ?_
        refine z_iload_n (pc := 32) dX6_swap_32 rfl rfl ?_
        refine z_V1i (pc := 33) dX6_swap_33 lVX6_119 ym_0 rfl (Nat.le_of_ble_eq_true rfl) (kX6_placeOf a1 s3 D (by omega)) (fun r4 s4 => ?_)
        refine z_aload_n (pc := 36) dX6_swap_36 rfl rfl ?_
        refine z_iload_n (pc := 37) dX6_swap_37 rfl rfl ?_
        refine z_V1i (pc := 38) dX6_swap_38 lVX6_119 ym_0 rfl (Nat.le_of_ble_eq_true rfl) (kX6_placeOf a2 s4 D (by omega)) (fun r5 s5 => ?_)
        refine z_V2u (pc := 41) dX6_swap_41 lVX6_279 ym_0 rfl (Nat.le_of_ble_eq_true rfl) (kX6_change r4 r5 s5 D (by omega)) (fun _ s6 => ?_)
        refine z_aload_n (pc := 44) dX6_swap_44 rfl rfl ?_
        refine z_V0i (pc := 45) dX6_swap_45 lVX6_262 ym_0 rfl (Nat.le_of_ble_eq_true rfl) (kX6_weakest s6 D (by omega)) (fun r7 s7 => ?_)
        exact z_iret (pc := 48) dX6_swap_48 rfl rfl
      · refine z_bipush_m2 (pc := 27) dX6_swap_27 ?_
        exact z_iret (pc := 29) dX6_swap_29 rfl rfl
def fX6_passes_34  (K84 : z_Mem → Option (Unit × z_Mem)) : Nat → Int32 → z_Mem → Option (Unit × z_Mem)
  | 0, _, _ => none
  | q + 1, l1, σ => if σ.1 0 12 ≤ l1 then (K84  σ) else (z_gd (z_in l1 6) (z_gd (z_in (((3 : Int32) * (σ.1 5 (z_x l1))) + (1 : Int32)) 18) (z_gd (z_in l1 6) (z_bd (fX6_within ((σ.1 4 (z_x (((3 : Int32) * (σ.1 5 (z_x l1))) + (1 : Int32)))) - (σ.1 6 (z_x l1))) (0 : Int32) (99 : Int32) σ) (fun r1 s1 => z_gd (z_in (((3 : Int32) * (σ.1 5 (z_x l1))) + (1 : Int32)) 18) (z_st (z_pt s1 4 (z_x (((3 : Int32) * (σ.1 5 (z_x l1))) + (1 : Int32))) r1) (fun s2 => fX6_passes_34  K84 q (l1 + 1) s2)))))))
theorem kX6_passes_34 (D : Nat)   (hD : 72 ≤ D) (K84 : z_Mem → Option (Unit × z_Mem)) (hK84 : ∀  (σ : z_Mem), z_Go YM mX6_passes (D + 1) z_u 84 [some (zR 0), none, none] [] σ (K84  σ)) : ∀ (q : Nat) (l1 : Int32)  (σ : z_Mem), z_Go YM mX6_passes (D + 1) z_u 34 [some (zR 0), some (zI l1), none] [] σ (fX6_passes_34 K84 q l1 σ) := by
  intro q
  induction q with
  | zero => intros; exact z_none
  | succ q ih =>
    intro l1 σ
    rw [fX6_passes_34]
    refine z_iload_n (pc := 34) dX6_passes_34 rfl rfl ?_
    refine z_aload_n (pc := 35) dX6_passes_35 rfl rfl ?_
    refine gfX6_12 (pc := 36) dX6_passes_36 ym_0 w_12_16 rfl ?_
    refine z_icmp_ge (tgt := 84) (pc := 39) dX6_passes_39 (by decide) (fun _ => ?_) (fun _ => ?_)
    · exact z_weak (lv' := [some (zR 0), none, none]) (z_sub_ok ⟨rfl, trivial⟩) (hK84  σ)
    · refine z_iconst_3 (pc := 42) dX6_passes_42 ?_
      refine z_aload_n (pc := 43) dX6_passes_43 rfl rfl ?_
      refine gfX6_11 (pc := 44) dX6_passes_44 ym_0 w_10_11 rfl ?_
      refine z_iload_n (pc := 47) dX6_passes_47 rfl rfl ?_
      refine z_iald (pc := 48) dX6_passes_48 ym_5 ?_
      refine z_imul (pc := 49) dX6_passes_49 ?_
      refine z_iconst_1 (pc := 50) dX6_passes_50 ?_
      refine z_iadd (pc := 51) dX6_passes_51 ?_
      refine z_istore_n (pc := 52) dX6_passes_52 rfl (Nat.le_of_ble_eq_true rfl) (z_so3_2 rfl) ?_
      refine z_aload_n (pc := 53) dX6_passes_53 rfl rfl ?_
      refine gfX6_9 (pc := 54) dX6_passes_54 ym_0 w_10_10 rfl ?_
      refine z_iload_n (pc := 57) dX6_passes_57 rfl rfl ?_
      refine z_aload_n (pc := 58) dX6_passes_58 rfl rfl ?_
      refine gfX6_9 (pc := 59) dX6_passes_59 ym_0 w_10_10 rfl ?_
      refine z_iload_n (pc := 62) dX6_passes_62 rfl rfl ?_
      refine z_iald (pc := 63) dX6_passes_63 ym_4 ?_
      refine z_aload_n (pc := 64) dX6_passes_64 rfl rfl ?_
      refine gfX6_28 (pc := 65) dX6_passes_65 ym_0 w_10_12 rfl ?_
      refine z_iload_n (pc := 68) dX6_passes_68 rfl rfl ?_
      refine z_iald (pc := 69) dX6_passes_69 ym_6 ?_
      refine z_isub (pc := 70) dX6_passes_70 ?_
      refine z_iconst_0 (pc := 71) dX6_passes_71 ?_
      refine z_bipush_99 (pc := 72) dX6_passes_72 ?_
      refine z_S3i (pc := 74) dX6_passes_74 lSX6_246 (Nat.le_of_ble_eq_true rfl) (kX6_within ((σ.1 4 (z_x (((3 : Int32) * (σ.1 5 (z_x l1))) + (1 : Int32)))) - (σ.1 6 (z_x l1))) (0 : Int32) (99 : Int32) σ D (by omega)) (fun r1 s1 => ?_)
      refine z_iast (pc := 77) dX6_passes_77 ym_4 ?_
      refine z_let (fun s2 => ?_)
      refine z_iinc (y := 1) (pc := 78) dX6_passes_78 rfl (by decide) (Nat.le_of_ble_eq_true rfl) (z_so3_1 rfl) ?_
      refine z_goto (tgt := 34) (pc := 81) dX6_passes_81 (by decide) ?_
      exact z_weak (lv' := [some (zR 0), some (zI (l1 + 1)), none]) (z_sub_ok ⟨rfl, rfl, trivial⟩) (ih (l1 + 1) s2)
def fX6_passes_2  : Nat → Int32 → z_Mem → Option (Unit × z_Mem)
  | 0, _, _ => none
  | q + 1, l1, σ => if σ.1 0 12 ≤ l1 then (fX6_passes_34 (fun σ => z_st (z_pt σ 0 7 ((σ.1 0 7) + (1 : Int32))) (fun s3 => some ((), s3))) z_FU (0 : Int32) σ) else (z_gd (z_in l1 6) (z_bd (fX6_spentOf (σ.1 5 (z_x l1)) σ) (fun r4 s4 => z_gd (z_in l1 6) (z_st (z_pt s4 6 (z_x l1) r4) (fun s5 => fX6_passes_2  q (l1 + 1) s5)))))
theorem kX6_passes_2 (D : Nat)   (hD : 72 ≤ D) : ∀ (q : Nat) (l1 : Int32)  (σ : z_Mem), z_Go YM mX6_passes (D + 1) z_u 2 [some (zR 0), some (zI l1), none] [] σ (fX6_passes_2 q l1 σ) := by
  intro q
  induction q with
  | zero => intros; exact z_none
  | succ q ih =>
    intro l1 σ
    rw [fX6_passes_2]
    refine z_iload_n (pc := 2) dX6_passes_2 rfl rfl ?_
    refine z_aload_n (pc := 3) dX6_passes_3 rfl rfl ?_
    refine gfX6_12 (pc := 4) dX6_passes_4 ym_0 w_12_16 rfl ?_
    refine z_icmp_ge (tgt := 32) (pc := 7) dX6_passes_7 (by decide) (fun _ => ?_) (fun _ => ?_)
    · refine z_iconst_0 (pc := 32) dX6_passes_32 ?_
      refine z_istore_n (pc := 33) dX6_passes_33 rfl (Nat.le_of_ble_eq_true rfl) (z_so3_1 rfl) ?_
      refine kX6_passes_34 D  hD _ (fun  σ => ?_) z_FU (0 : Int32) σ
      · refine z_aload_n (pc := 84) dX6_passes_84 rfl rfl ?_
        refine z_dup (pc := 85) dX6_passes_85 rfl ?_
        refine gfX6_7 (pc := 86) dX6_passes_86 ym_0 w_13_10 rfl ?_
        refine z_iconst_1 (pc := 89) dX6_passes_89 ?_
        refine z_iadd (pc := 90) dX6_passes_90 ?_
        refine pfX6_7 (pc := 91) dX6_passes_91 ym_0 w_13_10 rfl ?_
        refine z_let (fun s3 => ?_)
        exact z_vret (pc := 94) dX6_passes_94 rfl
    · refine z_aload_n (pc := 10) dX6_passes_10 rfl rfl ?_
      refine gfX6_28 (pc := 11) dX6_passes_11 ym_0 w_10_12 rfl ?_
      refine z_iload_n (pc := 14) dX6_passes_14 rfl rfl ?_
      refine z_aload_n (pc := 15) dX6_passes_15 rfl rfl ?_
      refine z_aload_n (pc := 16) dX6_passes_16 rfl rfl ?_
      refine gfX6_11 (pc := 17) dX6_passes_17 ym_0 w_10_11 rfl ?_
      refine z_iload_n (pc := 20) dX6_passes_20 rfl rfl ?_
      refine z_iald (pc := 21) dX6_passes_21 ym_5 ?_
      refine z_V1i (pc := 22) dX6_passes_22 lVX6_122 ym_0 rfl (Nat.le_of_ble_eq_true rfl) (kX6_spentOf (σ.1 5 (z_x l1)) σ D (by omega)) (fun r4 s4 => ?_)
      refine z_iast (pc := 25) dX6_passes_25 ym_6 ?_
      refine z_let (fun s5 => ?_)
      refine z_iinc (y := 1) (pc := 26) dX6_passes_26 rfl (by decide) (Nat.le_of_ble_eq_true rfl) (z_so3_1 rfl) ?_
      refine z_goto (tgt := 2) (pc := 29) dX6_passes_29 (by decide) ?_
      exact ih (l1 + 1) s5
def fX6_passes   (σ : z_Mem) : Option (Unit × z_Mem) :=
  fX6_passes_2 z_FU (0 : Int32) σ
theorem kX6_passes    (σ : z_Mem) (D : Nat) (hD : 73 ≤ D) : z_Call YM mX6_passes D z_u [zR 0] σ (fX6_passes σ) := by
  obtain ⟨D, rfl⟩ : ∃ E, D = E + 1 := ⟨D - 1, by omega⟩
  replace hD : 72 ≤ D := by omega
  refine z_entry (lv := [some (zR 0), none, none]) (by decide) rfl (Nat.le_of_ble_eq_true rfl) rfl ?_
  rw [fX6_passes]
  refine z_iconst_0 (pc := 0) dX6_passes_0 ?_
  refine z_istore_n (pc := 1) dX6_passes_1 rfl (Nat.le_of_ble_eq_true rfl) (z_so3_1 rfl) ?_
  exact kX6_passes_2 D  hD z_FU (0 : Int32) σ
def fX6_hour   (σ : z_Mem) : Option (Int32 × z_Mem) :=
  if σ.1 0 7 = (999 : Int32) then (some ((-3 : Int32), σ)) else (z_bd (fX6_passes σ) (fun _ s1 => z_bd (fX6_weakest s1) (fun r2 s2 => some (r2, s2))))
theorem kX6_hour    (σ : z_Mem) (D : Nat) (hD : 75 ≤ D) : z_Call YM mX6_hour D z_i [zR 0] σ (fX6_hour σ) := by
  obtain ⟨D, rfl⟩ : ∃ E, D = E + 1 := ⟨D - 1, by omega⟩
  replace hD : 74 ≤ D := by omega
  refine z_entry (lv := [some (zR 0)]) (by decide) rfl (Nat.le_of_ble_eq_true rfl) rfl ?_
  rw [fX6_hour]
  refine z_aload_n (pc := 0) dX6_hour_0 rfl rfl ?_
  refine gfX6_7 (pc := 1) dX6_hour_1 ym_0 w_13_10 rfl ?_
  refine z_sipush_999 (pc := 4) dX6_hour_4 ?_
  refine z_icmp_ne (tgt := 13) (pc := 7) dX6_hour_7 (by decide) (fun _ => ?_) (fun _ => ?_)
  · refine z_aload_n (pc := 13) dX6_hour_13 rfl rfl ?_
    refine z_V0u (pc := 14) dX6_hour_14 lVX6_282 ym_0 rfl (Nat.le_of_ble_eq_true rfl) (kX6_passes σ D (by omega)) (fun _ s1 => ?_)
    refine z_aload_n (pc := 17) dX6_hour_17 rfl rfl ?_
    refine z_V0i (pc := 18) dX6_hour_18 lVX6_262 ym_0 rfl (Nat.le_of_ble_eq_true rfl) (kX6_weakest s1 D (by omega)) (fun r2 s2 => ?_)
    exact z_iret (pc := 21) dX6_hour_21 rfl rfl
  · refine z_bipush_m3 (pc := 10) dX6_hour_10 ?_
    exact z_iret (pc := 12) dX6_hour_12 rfl rfl
def fX6_sneeze_j126  (l3 : Int32) (l4 : Int32) (l5 : Int32) (l6 : Int32) (σ : z_Mem) : Option (Int32 × z_Mem) :=
  if l3 = 0 then (some (l4, σ)) else (if l3 = (1 : Int32) then (some (l5, σ)) else (some (l6, σ)))
theorem kX6_sneeze_j126 (D : Nat)   (hD : 72 ≤ D) (l3 : Int32) (l4 : Int32) (l5 : Int32) (l6 : Int32)  (σ : z_Mem) : z_Go YM mX6_sneeze (D + 1) z_i 126 [none, none, none, some (zI l3), some (zI l4), some (zI l5), some (zI l6), none, none] [] σ (fX6_sneeze_j126 l3 l4 l5 l6 σ) := by
  rw [fX6_sneeze_j126]
  refine z_iload_n (pc := 126) dX6_sneeze_126 rfl rfl ?_
  refine z_if_ne (tgt := 135) (pc := 127) dX6_sneeze_127 (by decide) (fun _ => ?_) (fun _ => ?_)
  · refine z_iload_n (pc := 135) dX6_sneeze_135 rfl rfl ?_
    refine z_iconst_1 (pc := 136) dX6_sneeze_136 ?_
    refine z_icmp_ne (tgt := 145) (pc := 137) dX6_sneeze_137 (by decide) (fun _ => ?_) (fun _ => ?_)
    · refine z_iload (pc := 145) dX6_sneeze_145 rfl ?_
      exact z_iret (pc := 147) dX6_sneeze_147 rfl rfl
    · refine z_iload (pc := 140) dX6_sneeze_140 rfl ?_
      refine z_goto (tgt := 147) (pc := 142) dX6_sneeze_142 (by decide) ?_
      exact z_iret (pc := 147) dX6_sneeze_147 rfl rfl
  · refine z_iload (pc := 130) dX6_sneeze_130 rfl ?_
    refine z_goto (tgt := 147) (pc := 132) dX6_sneeze_132 (by decide) ?_
    exact z_iret (pc := 147) dX6_sneeze_147 rfl rfl
def fX6_sneeze_77  : Nat → Int32 → Int32 → Int32 → Int32 → Int32 → Int32 → z_Mem → Option (Int32 × z_Mem)
  | 0, _, _, _, _, _, _, _ => none
  | q + 1, l3, l4, l5, l6, l7, l8, σ => if l7 ≤ 0 then (fX6_sneeze_j126 l3 l4 l5 l6 σ) else (if (60 : Int32) ≤ l4 then (fX6_sneeze_j126 l3 l4 l5 l6 σ) else (z_gd (¬ (σ.1 0 12) = 0) (z_gd (z_in (l8 - l8 / (σ.1 0 12) * (σ.1 0 12)) 6) (z_bd (fX6_handsOf (σ.1 5 (z_x (l8 - l8 / (σ.1 0 12) * (σ.1 0 12)))) l7 σ) (fun r6 s6 => fX6_sneeze_77  q l3 (l4 + 1) (σ.1 5 (z_x (l8 - l8 / (σ.1 0 12) * (σ.1 0 12)))) l7 r6 (l8 + 1) s6)))))
theorem kX6_sneeze_77 (D : Nat)   (hD : 72 ≤ D) : ∀ (q : Nat) (l3 : Int32) (l4 : Int32) (l5 : Int32) (l6 : Int32) (l7 : Int32) (l8 : Int32)  (σ : z_Mem), z_Go YM mX6_sneeze (D + 1) z_i 77 [some (zR 0), none, none, some (zI l3), some (zI l4), some (zI l5), some (zI l6), some (zI l7), some (zI l8)] [] σ (fX6_sneeze_77 q l3 l4 l5 l6 l7 l8 σ) := by
  intro q
  induction q with
  | zero => intros; exact z_none
  | succ q ih =>
    intro l3 l4 l5 l6 l7 l8 σ
    rw [fX6_sneeze_77]
    refine z_iload (pc := 77) dX6_sneeze_77 rfl ?_
    refine z_if_le (tgt := 126) (pc := 79) dX6_sneeze_79 (by decide) (fun _ => ?_) (fun _ => ?_)
    · exact z_weak (lv' := [none, none, none, some (zI l3), some (zI l4), some (zI l5), some (zI l6), none, none]) (z_sub_ok ⟨rfl, rfl, rfl, rfl, trivial⟩) (kX6_sneeze_j126 D  hD l3 l4 l5 l6 σ)
    · refine z_iload (pc := 82) dX6_sneeze_82 rfl ?_
      refine z_bipush_60 (pc := 84) dX6_sneeze_84 ?_
      refine z_icmp_ge (tgt := 126) (pc := 86) dX6_sneeze_86 (by decide) (fun _ => ?_) (fun _ => ?_)
      · exact z_weak (lv' := [none, none, none, some (zI l3), some (zI l4), some (zI l5), some (zI l6), none, none]) (z_sub_ok ⟨rfl, rfl, rfl, rfl, trivial⟩) (kX6_sneeze_j126 D  hD l3 l4 l5 l6 σ)
      · refine z_aload_n (pc := 89) dX6_sneeze_89 rfl rfl ?_
        refine gfX6_11 (pc := 90) dX6_sneeze_90 ym_0 w_10_11 rfl ?_
        refine z_iload (pc := 93) dX6_sneeze_93 rfl ?_
        refine z_aload_n (pc := 95) dX6_sneeze_95 rfl rfl ?_
        refine gfX6_12 (pc := 96) dX6_sneeze_96 ym_0 w_12_16 rfl ?_
        refine z_irem (pc := 99) dX6_sneeze_99 ?_
        refine z_iald (pc := 100) dX6_sneeze_100 ym_5 ?_
        refine z_istore (pc := 101) dX6_sneeze_101 (Nat.le_of_ble_eq_true rfl) (z_so9_5 rfl) ?_
        refine z_iload (pc := 103) dX6_sneeze_103 rfl ?_
        refine z_istore (pc := 105) dX6_sneeze_105 (Nat.le_of_ble_eq_true rfl) (z_so9_6 rfl) ?_
        refine z_iinc (y := 1) (pc := 107) dX6_sneeze_107 rfl (by decide) (Nat.le_of_ble_eq_true rfl) (z_so9_4 rfl) ?_
        refine z_aload_n (pc := 110) dX6_sneeze_110 rfl rfl ?_
        refine z_iload (pc := 111) dX6_sneeze_111 rfl ?_
        refine z_iload (pc := 113) dX6_sneeze_113 rfl ?_
        refine z_V2i (pc := 115) dX6_sneeze_115 lVX6_259 ym_0 rfl (Nat.le_of_ble_eq_true rfl) (kX6_handsOf (σ.1 5 (z_x (l8 - l8 / (σ.1 0 12) * (σ.1 0 12)))) l7 σ D (by omega)) (fun r6 s6 => ?_)
        refine z_istore (pc := 118) dX6_sneeze_118 (Nat.le_of_ble_eq_true rfl) (z_so9_7 rfl) ?_
        refine z_iinc (y := 1) (pc := 120) dX6_sneeze_120 rfl (by decide) (Nat.le_of_ble_eq_true rfl) (z_so9_8 rfl) ?_
        refine z_goto (tgt := 77) (pc := 123) dX6_sneeze_123 (by decide) ?_
        exact ih l3 (l4 + 1) (σ.1 5 (z_x (l8 - l8 / (σ.1 0 12) * (σ.1 0 12)))) l7 r6 (l8 + 1) s6
def fX6_sneeze  (a1 : Int32) (a2 : Int32) (a3 : Int32) (σ : z_Mem) : Option (Int32 × z_Mem) :=
  z_bd (fX6_isOne a1 σ) (fun r1 s1 => if r1 = 0 then (some ((-2 : Int32), s1)) else (z_bd (fX6_placeOf a1 s1) (fun r2 s2 => if r2 = (-1 : Int32) then (some ((-2 : Int32), s2)) else (z_bd (fX6_in a2.toInt64 (0 : Int64) (99 : Int64) s2) (fun r3 s3 => if r3 = 0 then (some ((-2 : Int32), s3)) else (z_bd (fX6_in a3.toInt64 (0 : Int64) (2 : Int64) s3) (fun r4 s4 => if r4 = 0 then (some ((-2 : Int32), s4)) else (if s4.1 0 12 ≤ (1 : Int32) then (z_bd (fX6_placeOf a1 s4) (fun r5 s5 => fX6_sneeze_77 z_FU a3 (0 : Int32) (-1 : Int32) (0 : Int32) (0 : Int32) (r5 + (1 : Int32)) s5)) else (z_bd (fX6_placeOf a1 s4) (fun r7 s7 => fX6_sneeze_77 z_FU a3 (0 : Int32) (-1 : Int32) (0 : Int32) a2 (r7 + (1 : Int32)) s7))))))))))
theorem kX6_sneeze   (a1 : Int32) (a2 : Int32) (a3 : Int32) (σ : z_Mem) (D : Nat) (hD : 73 ≤ D) : z_Call YM mX6_sneeze D z_i [zR 0, zI a1, zI a2, zI a3] σ (fX6_sneeze a1 a2 a3 σ) := by
  obtain ⟨D, rfl⟩ : ∃ E, D = E + 1 := ⟨D - 1, by omega⟩
  replace hD : 72 ≤ D := by omega
  refine z_entry (lv := [some (zR 0), some (zI a1), some (zI a2), some (zI a3), none, none, none, none, none]) (by decide) rfl (Nat.le_of_ble_eq_true rfl) rfl ?_
  rw [fX6_sneeze]
  refine z_aload_n (pc := 0) dX6_sneeze_0 rfl rfl ?_
  refine z_iload_n (pc := 1) dX6_sneeze_1 rfl rfl ?_
  refine z_V1i (pc := 2) dX6_sneeze_2 lVX6_74 ym_0 rfl (Nat.le_of_ble_eq_true rfl) (kX6_isOne a1 σ D (by omega)) (fun r1 s1 => ?_)
  refine z_if_eq (tgt := 41) (pc := 5) dX6_sneeze_5 (by decide) (fun _ => ?_) (fun _ => ?_)
  · refine z_bipush_m2 (pc := 41) dX6_sneeze_41 ?_
    exact z_iret (pc := 43) dX6_sneeze_43 rfl rfl
  · refine z_aload_n (pc := 8) dX6_sneeze_8 rfl rfl ?_
    refine z_iload_n (pc := 9) dX6_sneeze_9 rfl rfl ?_
    refine z_V1i (pc := 10) dX6_sneeze_10 lVX6_119 ym_0 rfl (Nat.le_of_ble_eq_true rfl) (kX6_placeOf a1 s1 D (by omega)) (fun r2 s2 => ?_)
    refine z_iconst_m1 (pc := 13) dX6_sneeze_13 ?_
    refine z_icmp_eq (tgt := 41) (pc := 14) dX6_sneeze_14 (by decide) (fun _ => ?_) (fun _ => ?_)
    · refine z_bipush_m2 (pc := 41) dX6_sneeze_41 ?_
      exact z_iret (pc := 43) dX6_sneeze_43 rfl rfl
    · refine z_iload_n (pc := 17) dX6_sneeze_17 rfl rfl ?_
      refine z_i2l (pc := 18) dX6_sneeze_18 ?_
      refine z_lconst (v := 0) (pc := 19) dX6_sneeze_19 rfl ?_
      refine z_ldc2 (v := 99) (pc := 20) dX6_sneeze_20 w_19_1 ?_
      refine z_S3i (pc := 23) dX6_sneeze_23 lSX6_70 (Nat.le_of_ble_eq_true rfl) (kX6_in a2.toInt64 (0 : Int64) (99 : Int64) s2 D (by omega)) (fun r3 s3 => ?_)
      refine z_if_eq (tgt := 41) (pc := 26) dX6_sneeze_26 (by decide) (fun _ => ?_) (fun _ => ?_)
      · refine z_bipush_m2 (pc := 41) dX6_sneeze_41 ?_
        exact z_iret (pc := 43) dX6_sneeze_43 rfl rfl
      · refine z_iload_n (pc := 29) dX6_sneeze_29 rfl rfl ?_
        refine z_i2l (pc := 30) dX6_sneeze_30 ?_
        refine z_lconst (v := 0) (pc := 31) dX6_sneeze_31 rfl ?_
        refine z_ldc2 (v := 2) (pc := 32) dX6_sneeze_32 w_28_14 ?_
        refine z_S3i (pc := 35) dX6_sneeze_35 lSX6_70 (Nat.le_of_ble_eq_true rfl) (kX6_in a3.toInt64 (0 : Int64) (2 : Int64) s3 D (by omega)) (fun r4 s4 => ?_)
        refine z_if_ne (tgt := 44) (pc := 38) dX6_sneeze_38 (by decide) (fun _ => ?_) (fun _ => ?_)
        · refine z_iconst_0 (pc := 44) dX6_sneeze_44 ?_
          refine z_istore (pc := 45) dX6_sneeze_45 (Nat.le_of_ble_eq_true rfl) (z_so9_4 rfl) ?_
          refine z_iconst_m1 (pc := 47) dX6_sneeze_47 ?_
          refine z_istore (pc := 48) dX6_sneeze_48 (Nat.le_of_ble_eq_true rfl) (z_so9_5 rfl) ?_
          refine z_iconst_0 (pc := 50) dX6_sneeze_50 ?_
          refine z_istore (pc := 51) dX6_sneeze_51 (Nat.le_of_ble_eq_true rfl) (z_so9_6 rfl) ?_
          refine z_aload_n (pc := 53) dX6_sneeze_53 rfl rfl ?_
          refine gfX6_12 (pc := 54) dX6_sneeze_54 ym_0 w_12_16 rfl ?_
          refine z_iconst_1 (pc := 57) dX6_sneeze_57 ?_
          refine z_icmp_le (tgt := 65) (pc := 58) dX6_sneeze_58 (by decide) (fun _ => ?_) (fun _ => ?_)
          · refine z_iconst_0 (pc := 65) dX6_sneeze_65 ?_
            refine z_istore (pc := 66) dX6_sneeze_66 (Nat.le_of_ble_eq_true rfl) (z_so9_7 rfl) ?_
            refine z_aload_n (pc := 68) dX6_sneeze_68 rfl rfl ?_
            refine z_iload_n (pc := 69) dX6_sneeze_69 rfl rfl ?_
            refine z_V1i (pc := 70) dX6_sneeze_70 lVX6_119 ym_0 rfl (Nat.le_of_ble_eq_true rfl) (kX6_placeOf a1 s4 D (by omega)) (fun r5 s5 => ?_)
            refine z_iconst_1 (pc := 73) dX6_sneeze_73 ?_
            refine z_iadd (pc := 74) dX6_sneeze_74 ?_
            refine z_istore (pc := 75) dX6_sneeze_75 (Nat.le_of_ble_eq_true rfl) (z_so9_8 rfl) ?_
            exact z_weak (lv' := [some (zR 0), none, none, some (zI a3), some (zI (0 : Int32)), some (zI (-1 : Int32)), some (zI (0 : Int32)), some (zI (0 : Int32)), some (zI (r5 + (1 : Int32)))]) (z_sub_ok ⟨rfl, rfl, rfl, rfl, rfl, rfl, rfl, trivial⟩) (kX6_sneeze_77 D  hD z_FU a3 (0 : Int32) (-1 : Int32) (0 : Int32) (0 : Int32) (r5 + (1 : Int32)) s5)
          · refine z_iload_n (pc := 61) dX6_sneeze_61 rfl rfl ?_
            refine z_goto (tgt := 66) (pc := 62) dX6_sneeze_62 (by decide) ?_
            refine z_istore (pc := 66) dX6_sneeze_66 (Nat.le_of_ble_eq_true rfl) (z_so9_7 rfl) ?_
            refine z_aload_n (pc := 68) dX6_sneeze_68 rfl rfl ?_
            refine z_iload_n (pc := 69) dX6_sneeze_69 rfl rfl ?_
            refine z_V1i (pc := 70) dX6_sneeze_70 lVX6_119 ym_0 rfl (Nat.le_of_ble_eq_true rfl) (kX6_placeOf a1 s4 D (by omega)) (fun r7 s7 => ?_)
            refine z_iconst_1 (pc := 73) dX6_sneeze_73 ?_
            refine z_iadd (pc := 74) dX6_sneeze_74 ?_
            refine z_istore (pc := 75) dX6_sneeze_75 (Nat.le_of_ble_eq_true rfl) (z_so9_8 rfl) ?_
            exact z_weak (lv' := [some (zR 0), none, none, some (zI a3), some (zI (0 : Int32)), some (zI (-1 : Int32)), some (zI (0 : Int32)), some (zI a2), some (zI (r7 + (1 : Int32)))]) (z_sub_ok ⟨rfl, rfl, rfl, rfl, rfl, rfl, rfl, trivial⟩) (kX6_sneeze_77 D  hD z_FU a3 (0 : Int32) (-1 : Int32) (0 : Int32) a2 (r7 + (1 : Int32)) s7)
        · refine z_bipush_m2 (pc := 41) dX6_sneeze_41 ?_
          exact z_iret (pc := 43) dX6_sneeze_43 rfl rfl
def fX6_told  (a1 : Int32) (a2 : Int32) (σ : z_Mem) : Option (Int32 × z_Mem) :=
  z_bd (fX6_in a2.toInt64 (0 : Int64) (8 : Int64) σ) (fun r1 s1 => if r1 = 0 then (some ((-1000 : Int32), s1)) else (z_bd (fX6_isOf a2 a1 s1) (fun r2 s2 => if r2 = 0 then (some ((-1000 : Int32), s2)) else (if (5 : Int32) ≤ a2 then (if a2 = (5 : Int32) then (z_bd (fX6_placeOf a1 s2) (fun r5 s5 => some (r5, s5))) else (if a2 = (6 : Int32) then (z_bd (fX6_spentOf a1 s2) (fun r4 s4 => some (r4, s4))) else (if a2 = (7 : Int32) then (z_gd (z_in a1 6) (some (s2.1 5 (z_x a1), s2))) else (z_bd (fX6_hold a1 s2) (fun r3 s3 => some (r3, s3)))))) else (if a2 = 0 then (some (s2.1 0 7, s2)) else (if a2 = (1 : Int32) then (some (s2.1 0 8, s2)) else (z_gd (z_in ((((3 : Int32) * a1) + a2) - (2 : Int32)) 18) (some (s2.1 4 (z_x ((((3 : Int32) * a1) + a2) - (2 : Int32))), s2)))))))))
theorem kX6_told   (a1 : Int32) (a2 : Int32) (σ : z_Mem) (D : Nat) (hD : 74 ≤ D) : z_Call YM mX6_told D z_i [zR 0, zI a1, zI a2] σ (fX6_told a1 a2 σ) := by
  obtain ⟨D, rfl⟩ : ∃ E, D = E + 1 := ⟨D - 1, by omega⟩
  replace hD : 73 ≤ D := by omega
  refine z_entry (lv := [some (zR 0), some (zI a1), some (zI a2)]) (by decide) rfl (Nat.le_of_ble_eq_true rfl) rfl ?_
  rw [fX6_told]
  refine z_iload_n (pc := 0) dX6_told_0 rfl rfl ?_
  refine z_i2l (pc := 1) dX6_told_1 ?_
  refine z_lconst (v := 0) (pc := 2) dX6_told_2 rfl ?_
  refine z_ldc2 (v := 8) (pc := 3) dX6_told_3 w_13_9 ?_
  refine z_S3i (pc := 6) dX6_told_6 lSX6_70 (Nat.le_of_ble_eq_true rfl) (kX6_in a2.toInt64 (0 : Int64) (8 : Int64) σ D (by omega)) (fun r1 s1 => ?_)
  refine z_if_eq (tgt := 21) (pc := 9) dX6_told_9 (by decide) (fun _ => ?_) (fun _ => ?_)
  · refine z_sipush_m1000 (pc := 21) dX6_told_21 ?_
    exact z_iret (pc := 24) dX6_told_24 rfl rfl
  · refine z_aload_n (pc := 12) dX6_told_12 rfl rfl ?_
    refine z_iload_n (pc := 13) dX6_told_13 rfl rfl ?_
    refine z_iload_n (pc := 14) dX6_told_14 rfl rfl ?_
    refine z_V2i (pc := 15) dX6_told_15 lVX6_86 ym_0 rfl (Nat.le_of_ble_eq_true rfl) (kX6_isOf a2 a1 s1 D (by omega)) (fun r2 s2 => ?_)
    refine z_if_ne (tgt := 25) (pc := 18) dX6_told_18 (by decide) (fun _ => ?_) (fun _ => ?_)
    · refine z_iload_n (pc := 25) dX6_told_25 rfl rfl ?_
      refine z_iconst_5 (pc := 26) dX6_told_26 ?_
      refine z_icmp_ge (tgt := 66) (pc := 27) dX6_told_27 (by decide) (fun _ => ?_) (fun _ => ?_)
      · refine z_iload_n (pc := 66) dX6_told_66 rfl rfl ?_
        refine z_iconst_5 (pc := 67) dX6_told_67 ?_
        refine z_icmp_ne (tgt := 79) (pc := 68) dX6_told_68 (by decide) (fun _ => ?_) (fun _ => ?_)
        · refine z_iload_n (pc := 79) dX6_told_79 rfl rfl ?_
          refine z_bipush_6 (pc := 80) dX6_told_80 ?_
          refine z_icmp_ne (tgt := 93) (pc := 82) dX6_told_82 (by decide) (fun _ => ?_) (fun _ => ?_)
          · refine z_iload_n (pc := 93) dX6_told_93 rfl rfl ?_
            refine z_bipush_7 (pc := 94) dX6_told_94 ?_
            refine z_icmp_ne (tgt := 108) (pc := 96) dX6_told_96 (by decide) (fun _ => ?_) (fun _ => ?_)
            · refine z_aload_n (pc := 108) dX6_told_108 rfl rfl ?_
              refine z_iload_n (pc := 109) dX6_told_109 rfl rfl ?_
              refine z_V1i (pc := 110) dX6_told_110 lVX6_125 ym_0 rfl (Nat.le_of_ble_eq_true rfl) (kX6_hold a1 s2 D (by omega)) (fun r3 s3 => ?_)
              exact z_iret (pc := 113) dX6_told_113 rfl rfl
            · refine z_aload_n (pc := 99) dX6_told_99 rfl rfl ?_
              refine gfX6_11 (pc := 100) dX6_told_100 ym_0 w_10_11 rfl ?_
              refine z_iload_n (pc := 103) dX6_told_103 rfl rfl ?_
              refine z_iald (pc := 104) dX6_told_104 ym_5 ?_
              refine z_goto (tgt := 113) (pc := 105) dX6_told_105 (by decide) ?_
              exact z_iret (pc := 113) dX6_told_113 rfl rfl
          · refine z_aload_n (pc := 85) dX6_told_85 rfl rfl ?_
            refine z_iload_n (pc := 86) dX6_told_86 rfl rfl ?_
            refine z_V1i (pc := 87) dX6_told_87 lVX6_122 ym_0 rfl (Nat.le_of_ble_eq_true rfl) (kX6_spentOf a1 s2 D (by omega)) (fun r4 s4 => ?_)
            refine z_goto (tgt := 113) (pc := 90) dX6_told_90 (by decide) ?_
            exact z_iret (pc := 113) dX6_told_113 rfl rfl
        · refine z_aload_n (pc := 71) dX6_told_71 rfl rfl ?_
          refine z_iload_n (pc := 72) dX6_told_72 rfl rfl ?_
          refine z_V1i (pc := 73) dX6_told_73 lVX6_119 ym_0 rfl (Nat.le_of_ble_eq_true rfl) (kX6_placeOf a1 s2 D (by omega)) (fun r5 s5 => ?_)
          refine z_goto (tgt := 113) (pc := 76) dX6_told_76 (by decide) ?_
          exact z_iret (pc := 113) dX6_told_113 rfl rfl
      · refine z_iload_n (pc := 30) dX6_told_30 rfl rfl ?_
        refine z_if_ne (tgt := 41) (pc := 31) dX6_told_31 (by decide) (fun _ => ?_) (fun _ => ?_)
        · refine z_iload_n (pc := 41) dX6_told_41 rfl rfl ?_
          refine z_iconst_1 (pc := 42) dX6_told_42 ?_
          refine z_icmp_ne (tgt := 53) (pc := 43) dX6_told_43 (by decide) (fun _ => ?_) (fun _ => ?_)
          · refine z_aload_n (pc := 53) dX6_told_53 rfl rfl ?_
            refine gfX6_9 (pc := 54) dX6_told_54 ym_0 w_10_10 rfl ?_
            refine z_iconst_3 (pc := 57) dX6_told_57 ?_
            refine z_iload_n (pc := 58) dX6_told_58 rfl rfl ?_
            refine z_imul (pc := 59) dX6_told_59 ?_
            refine z_iload_n (pc := 60) dX6_told_60 rfl rfl ?_
            refine z_iadd (pc := 61) dX6_told_61 ?_
            refine z_iconst_2 (pc := 62) dX6_told_62 ?_
            refine z_isub (pc := 63) dX6_told_63 ?_
            refine z_iald (pc := 64) dX6_told_64 ym_4 ?_
            exact z_iret (pc := 65) dX6_told_65 rfl rfl
          · refine z_aload_n (pc := 46) dX6_told_46 rfl rfl ?_
            refine gfX6_8 (pc := 47) dX6_told_47 ym_0 w_13_11 rfl ?_
            refine z_goto (tgt := 65) (pc := 50) dX6_told_50 (by decide) ?_
            exact z_iret (pc := 65) dX6_told_65 rfl rfl
        · refine z_aload_n (pc := 34) dX6_told_34 rfl rfl ?_
          refine gfX6_7 (pc := 35) dX6_told_35 ym_0 w_13_10 rfl ?_
          refine z_goto (tgt := 65) (pc := 38) dX6_told_38 (by decide) ?_
          exact z_iret (pc := 65) dX6_told_65 rfl rfl
    · refine z_sipush_m1000 (pc := 21) dX6_told_21 ?_
      exact z_iret (pc := 24) dX6_told_24 rfl rfl
def fX6_set  (a1 : Int32) (a2 : Int32) (a3 : Int32) (σ : z_Mem) : Option (Int32 × z_Mem) :=
  z_bd (fX6_in a1.toInt64 (0 : Int64) (3 : Int64) σ) (fun r1 s1 => if r1 = 0 then (some ((-2 : Int32), s1)) else (z_bd (fX6_isOf a1 a2 s1) (fun r2 s2 => if r2 = 0 then (some ((-2 : Int32), s2)) else (z_bd (fX6_mostOf a1 s2) (fun r3 s3 => z_bd (fX6_in a3.toInt64 (0 : Int64) r3.toInt64 s3) (fun r4 s4 => if r4 = 0 then (some ((-2 : Int32), s4)) else (z_bd (fX6_told a2 a1 s4) (fun r5 s5 => z_bd (fX6_lays a1 a2 a3 s5) (fun _ s6 => some (r5, s6))))))))))
theorem kX6_set   (a1 : Int32) (a2 : Int32) (a3 : Int32) (σ : z_Mem) (D : Nat) (hD : 75 ≤ D) : z_Call YM mX6_set D z_i [zR 0, zI a1, zI a2, zI a3] σ (fX6_set a1 a2 a3 σ) := by
  obtain ⟨D, rfl⟩ : ∃ E, D = E + 1 := ⟨D - 1, by omega⟩
  replace hD : 74 ≤ D := by omega
  refine z_entry (lv := [some (zR 0), some (zI a1), some (zI a2), some (zI a3), none]) (by decide) rfl (Nat.le_of_ble_eq_true rfl) rfl ?_
  rw [fX6_set]
  refine z_iload_n (pc := 0) dX6_set_0 rfl rfl ?_
  refine z_i2l (pc := 1) dX6_set_1 ?_
  refine z_lconst (v := 0) (pc := 2) dX6_set_2 rfl ?_
  refine z_ldc2 (v := 3) (pc := 3) dX6_set_3 w_12_8 ?_
  refine z_S3i (pc := 6) dX6_set_6 lSX6_70 (Nat.le_of_ble_eq_true rfl) (kX6_in a1.toInt64 (0 : Int64) (3 : Int64) σ D (by omega)) (fun r1 s1 => ?_)
  refine z_if_eq (tgt := 35) (pc := 9) dX6_set_9 (by decide) (fun _ => ?_) (fun _ => ?_)
  · refine z_bipush_m2 (pc := 35) dX6_set_35 ?_
    exact z_iret (pc := 37) dX6_set_37 rfl rfl
  · refine z_aload_n (pc := 12) dX6_set_12 rfl rfl ?_
    refine z_iload_n (pc := 13) dX6_set_13 rfl rfl ?_
    refine z_iload_n (pc := 14) dX6_set_14 rfl rfl ?_
    refine z_V2i (pc := 15) dX6_set_15 lVX6_86 ym_0 rfl (Nat.le_of_ble_eq_true rfl) (kX6_isOf a1 a2 s1 D (by omega)) (fun r2 s2 => ?_)
    refine z_if_eq (tgt := 35) (pc := 18) dX6_set_18 (by decide) (fun _ => ?_) (fun _ => ?_)
    · refine z_bipush_m2 (pc := 35) dX6_set_35 ?_
      exact z_iret (pc := 37) dX6_set_37 rfl rfl
    · refine z_iload_n (pc := 21) dX6_set_21 rfl rfl ?_
      refine z_i2l (pc := 22) dX6_set_22 ?_
      refine z_lconst (v := 0) (pc := 23) dX6_set_23 rfl ?_
      refine z_iload_n (pc := 24) dX6_set_24 rfl rfl ?_
      refine z_S1i (pc := 25) dX6_set_25 lSX6_90 (Nat.le_of_ble_eq_true rfl) (kX6_mostOf a1 s2 D (by omega)) (fun r3 s3 => ?_)
      refine z_i2l (pc := 28) dX6_set_28 ?_
      refine z_S3i (pc := 29) dX6_set_29 lSX6_70 (Nat.le_of_ble_eq_true rfl) (kX6_in a3.toInt64 (0 : Int64) r3.toInt64 s3 D (by omega)) (fun r4 s4 => ?_)
      refine z_if_ne (tgt := 38) (pc := 32) dX6_set_32 (by decide) (fun _ => ?_) (fun _ => ?_)
      · refine z_aload_n (pc := 38) dX6_set_38 rfl rfl ?_
        refine z_iload_n (pc := 39) dX6_set_39 rfl rfl ?_
        refine z_iload_n (pc := 40) dX6_set_40 rfl rfl ?_
        refine z_V2i (pc := 41) dX6_set_41 lVX6_94 ym_0 rfl (Nat.le_of_ble_eq_true rfl) (kX6_told a2 a1 s4 D (by omega)) (fun r5 s5 => ?_)
        refine z_istore (pc := 44) dX6_set_44 (Nat.le_of_ble_eq_true rfl) (z_so5_4 rfl) ?_
        refine z_aload_n (pc := 46) dX6_set_46 rfl rfl ?_
        refine z_iload_n (pc := 47) dX6_set_47 rfl rfl ?_
        refine z_iload_n (pc := 48) dX6_set_48 rfl rfl ?_
        refine z_iload_n (pc := 49) dX6_set_49 rfl rfl ?_
        refine z_V3u (pc := 50) dX6_set_50 lVX6_98 ym_0 rfl (Nat.le_of_ble_eq_true rfl) (kX6_lays a1 a2 a3 s5 D (by omega)) (fun _ s6 => ?_)
        refine z_iload (pc := 53) dX6_set_53 rfl ?_
        exact z_iret (pc := 55) dX6_set_55 rfl rfl
      · refine z_bipush_m2 (pc := 35) dX6_set_35 ?_
        exact z_iret (pc := 37) dX6_set_37 rfl rfl
