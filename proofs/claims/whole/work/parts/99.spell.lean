/-! the reference's letters by eights -/
def fX6_spell  (a1 : Int32) (a2 : Int32) (a3 : Int32) (a4 : Int32) (a5 : Int32) (a6 : Int32) (a7 : Int32) (a8 : Int32) (a9 : Int32) (σ : z_Mem) : Option (Unit × z_Mem) :=
  z_gd (z_in a1 960) (z_st (z_pt σ 1 (z_x a1) a2) (fun s1 => z_gd (z_in (a1 + (1 : Int32)) 960) (z_st (z_pt s1 1 (z_x (a1 + (1 : Int32))) a3) (fun s2 => z_gd (z_in (a1 + (2 : Int32)) 960) (z_st (z_pt s2 1 (z_x (a1 + (2 : Int32))) a4) (fun s3 => z_gd (z_in (a1 + (3 : Int32)) 960) (z_st (z_pt s3 1 (z_x (a1 + (3 : Int32))) a5) (fun s4 => z_gd (z_in (a1 + (4 : Int32)) 960) (z_st (z_pt s4 1 (z_x (a1 + (4 : Int32))) a6) (fun s5 => z_gd (z_in (a1 + (5 : Int32)) 960) (z_st (z_pt s5 1 (z_x (a1 + (5 : Int32))) a7) (fun s6 => z_gd (z_in (a1 + (6 : Int32)) 960) (z_st (z_pt s6 1 (z_x (a1 + (6 : Int32))) a8) (fun s7 => z_gd (z_in (a1 + (7 : Int32)) 960) (z_st (z_pt s7 1 (z_x (a1 + (7 : Int32))) a9) (fun s8 => some ((), s8)))))))))))))))))
theorem kX6_spell   (a1 : Int32) (a2 : Int32) (a3 : Int32) (a4 : Int32) (a5 : Int32) (a6 : Int32) (a7 : Int32) (a8 : Int32) (a9 : Int32) (σ : z_Mem) (D : Nat) (hD : 1 ≤ D) : z_Call YM mX6_spell D z_u [zR 0, zI a1, zI a2, zI a3, zI a4, zI a5, zI a6, zI a7, zI a8, zI a9] σ (fX6_spell a1 a2 a3 a4 a5 a6 a7 a8 a9 σ) := by
  obtain ⟨D, rfl⟩ : ∃ E, D = E + 1 := ⟨D - 1, by omega⟩
  replace hD : 0 ≤ D := by omega
  refine z_entry (lv := [some (zR 0), some (zI a1), some (zI a2), some (zI a3), some (zI a4), some (zI a5), some (zI a6), some (zI a7), some (zI a8), some (zI a9)]) (by decide) rfl (Nat.le_of_ble_eq_true rfl) rfl ?_
  rw [fX6_spell]
  refine z_aload_n (pc := 0) dX6_spell_0 rfl rfl ?_
  refine gfX6_1 (pc := 1) dX6_spell_1 ym_0 w_10_7 rfl ?_
  refine z_iload_n (pc := 4) dX6_spell_4 rfl rfl ?_
  refine z_iload_n (pc := 5) dX6_spell_5 rfl rfl ?_
  refine z_iast (pc := 6) dX6_spell_6 ym_1 ?_
  refine z_let (fun s1 => ?_)
  refine z_aload_n (pc := 7) dX6_spell_7 rfl rfl ?_
  refine gfX6_1 (pc := 8) dX6_spell_8 ym_0 w_10_7 rfl ?_
  refine z_iload_n (pc := 11) dX6_spell_11 rfl rfl ?_
  refine z_iconst_1 (pc := 12) dX6_spell_12 ?_
  refine z_iadd (pc := 13) dX6_spell_13 ?_
  refine z_iload_n (pc := 14) dX6_spell_14 rfl rfl ?_
  refine z_iast (pc := 15) dX6_spell_15 ym_1 ?_
  refine z_let (fun s2 => ?_)
  refine z_aload_n (pc := 16) dX6_spell_16 rfl rfl ?_
  refine gfX6_1 (pc := 17) dX6_spell_17 ym_0 w_10_7 rfl ?_
  refine z_iload_n (pc := 20) dX6_spell_20 rfl rfl ?_
  refine z_iconst_2 (pc := 21) dX6_spell_21 ?_
  refine z_iadd (pc := 22) dX6_spell_22 ?_
  refine z_iload (pc := 23) dX6_spell_23 rfl ?_
  refine z_iast (pc := 25) dX6_spell_25 ym_1 ?_
  refine z_let (fun s3 => ?_)
  refine z_aload_n (pc := 26) dX6_spell_26 rfl rfl ?_
  refine gfX6_1 (pc := 27) dX6_spell_27 ym_0 w_10_7 rfl ?_
  refine z_iload_n (pc := 30) dX6_spell_30 rfl rfl ?_
  refine z_iconst_3 (pc := 31) dX6_spell_31 ?_
  refine z_iadd (pc := 32) dX6_spell_32 ?_
  refine z_iload (pc := 33) dX6_spell_33 rfl ?_
  refine z_iast (pc := 35) dX6_spell_35 ym_1 ?_
  refine z_let (fun s4 => ?_)
  refine z_aload_n (pc := 36) dX6_spell_36 rfl rfl ?_
  refine gfX6_1 (pc := 37) dX6_spell_37 ym_0 w_10_7 rfl ?_
  refine z_iload_n (pc := 40) dX6_spell_40 rfl rfl ?_
  refine z_iconst_4 (pc := 41) dX6_spell_41 ?_
  refine z_iadd (pc := 42) dX6_spell_42 ?_
  refine z_iload (pc := 43) dX6_spell_43 rfl ?_
  refine z_iast (pc := 45) dX6_spell_45 ym_1 ?_
  refine z_let (fun s5 => ?_)
  refine z_aload_n (pc := 46) dX6_spell_46 rfl rfl ?_
  refine gfX6_1 (pc := 47) dX6_spell_47 ym_0 w_10_7 rfl ?_
  refine z_iload_n (pc := 50) dX6_spell_50 rfl rfl ?_
  refine z_iconst_5 (pc := 51) dX6_spell_51 ?_
  refine z_iadd (pc := 52) dX6_spell_52 ?_
  refine z_iload (pc := 53) dX6_spell_53 rfl ?_
  refine z_iast (pc := 55) dX6_spell_55 ym_1 ?_
  refine z_let (fun s6 => ?_)
  refine z_aload_n (pc := 56) dX6_spell_56 rfl rfl ?_
  refine gfX6_1 (pc := 57) dX6_spell_57 ym_0 w_10_7 rfl ?_
  refine z_iload_n (pc := 60) dX6_spell_60 rfl rfl ?_
  refine z_bipush_6 (pc := 61) dX6_spell_61 ?_
  refine z_iadd (pc := 63) dX6_spell_63 ?_
  refine z_iload (pc := 64) dX6_spell_64 rfl ?_
  refine z_iast (pc := 66) dX6_spell_66 ym_1 ?_
  refine z_let (fun s7 => ?_)
  refine z_aload_n (pc := 67) dX6_spell_67 rfl rfl ?_
  refine gfX6_1 (pc := 68) dX6_spell_68 ym_0 w_10_7 rfl ?_
  refine z_iload_n (pc := 71) dX6_spell_71 rfl rfl ?_
  refine z_bipush_7 (pc := 72) dX6_spell_72 ?_
  refine z_iadd (pc := 74) dX6_spell_74 ?_
  refine z_iload (pc := 75) dX6_spell_75 rfl ?_
  refine z_iast (pc := 77) dX6_spell_77 ym_1 ?_
  refine z_let (fun s8 => ?_)
  exact z_vret (pc := 78) dX6_spell_78 rfl
def z_p8 (σ : z_Mem) (n : Nat) (b c d e f g h i : Int32) : z_Mem := z_pt (z_pt (z_pt (z_pt (z_pt (z_pt (z_pt (z_pt σ 1 n b) 1 (n + 1) c) 1 (n + 2) d) 1 (n + 3) e) 1 (n + 4) f) 1 (n + 5) g) 1 (n + 6) h) 1 (n + 7) i
set_option maxRecDepth 100000 in
theorem m_spell {σ : z_Mem} {n : Nat} (hn : n + 7 < 960) (b c d e f g h i : Int32) : fX6_spell (nI n) b c d e f g h i σ = some ((), z_p8 σ n b c d e f g h i) := by
  have a1 : nI n + (1 : Int32) = nI (n + 1) := by rw [show (1 : Int32) = nI 1 by decide, nI_add]
  have a2 : nI n + (2 : Int32) = nI (n + 2) := by rw [show (2 : Int32) = nI 2 by decide, nI_add]
  have a3 : nI n + (3 : Int32) = nI (n + 3) := by rw [show (3 : Int32) = nI 3 by decide, nI_add]
  have a4 : nI n + (4 : Int32) = nI (n + 4) := by rw [show (4 : Int32) = nI 4 by decide, nI_add]
  have a5 : nI n + (5 : Int32) = nI (n + 5) := by rw [show (5 : Int32) = nI 5 by decide, nI_add]
  have a6 : nI n + (6 : Int32) = nI (n + 6) := by rw [show (6 : Int32) = nI 6 by decide, nI_add]
  have a7 : nI n + (7 : Int32) = nI (n + 7) := by rw [show (7 : Int32) = nI 7 by decide, nI_add]
  unfold fX6_spell
  rw [z_gdT (z_inN (n := n) (N := 960) (by omega) (by decide)), z_stE, z_xN (n := n) (by omega), a1, z_gdT (z_inN (n := n + 1) (N := 960) (by omega) (by decide)), z_stE, z_xN (n := n + 1) (by omega), a2, z_gdT (z_inN (n := n + 2) (N := 960) (by omega) (by decide)), z_stE, z_xN (n := n + 2) (by omega), a3, z_gdT (z_inN (n := n + 3) (N := 960) (by omega) (by decide)), z_stE, z_xN (n := n + 3) (by omega), a4, z_gdT (z_inN (n := n + 4) (N := 960) (by omega) (by decide)), z_stE, z_xN (n := n + 4) (by omega), a5, z_gdT (z_inN (n := n + 5) (N := 960) (by omega) (by decide)), z_stE, z_xN (n := n + 5) (by omega), a6, z_gdT (z_inN (n := n + 6) (N := 960) (by omega) (by decide)), z_stE, z_xN (n := n + 6) (by omega), a7, z_gdT (z_inN (n := n + 7) (N := 960) (by omega) (by decide)), z_stE, z_xN (n := n + 7) (by omega)]
  rfl
theorem z_p8_s {σ : z_Mem} {n : Nat} {b c d e f g h i : Int32} : (z_p8 σ n b c d e f g h i).2 = σ.2 := rfl
theorem z_p8_r {σ : z_Mem} {n k : Nat} {b c d e f g h i : Int32} (hh : k ≠ 1) : (z_p8 σ n b c d e f g h i).1 k = σ.1 k := by
  unfold z_p8
  rw [z_pt_r hh, z_pt_r hh, z_pt_r hh, z_pt_r hh, z_pt_r hh, z_pt_r hh, z_pt_r hh, z_pt_r hh]
theorem z_p8_n {σ : z_Mem} {n j : Nat} {b c d e f g h i : Int32} (hh : n + 7 < j) : (z_p8 σ n b c d e f g h i).1 1 j = σ.1 1 j := by
  unfold z_p8
  rw [z_pt_2 (show j ≠ n + 7 by omega), z_pt_2 (show j ≠ n + 6 by omega), z_pt_2 (show j ≠ n + 5 by omega), z_pt_2 (show j ≠ n + 4 by omega), z_pt_2 (show j ≠ n + 3 by omega), z_pt_2 (show j ≠ n + 2 by omega), z_pt_2 (show j ≠ n + 1 by omega), z_pt_2 (show j ≠ n by omega)]
/-- the reference's memory ahead of the letters -/
def zM1 : z_Mem := (fun k j => if k = 0 ∧ j = 35 then -1 else 0, fun _ _ => 0)
def zM2 : z_Mem := z_p8 (z_p8 (z_p8 (z_p8 (z_p8 (z_p8 (zM1) 0 103 114 105 112 115 32 115 116) 8 114 101 110 103 116 104 32 45) 16 32 99 111 108 100 32 59 32) 24 104 97 110 100 115 32 51 32) 32 59 32 116 105 114 101 115 32) 40 49 32 59 32 32 32 32 32
set_option maxRecDepth 100000 in
theorem zM2_lt : ∀ j, j < 48 → zM2.1 1 j = t0M.getD j 0 := by decide +kernel
theorem zM2_r {k : Nat} (h : k ≠ 1) : zM2.1 k = zM1.1 k := by
  unfold zM2
  rw [z_p8_r h, z_p8_r h, z_p8_r h, z_p8_r h, z_p8_r h, z_p8_r h]
theorem zM2_n {j : Nat} (h : 48 ≤ j) : zM2.1 1 j = 0 := by
  unfold zM2
  rw [z_p8_n (by omega), z_p8_n (by omega), z_p8_n (by omega), z_p8_n (by omega), z_p8_n (by omega), z_p8_n (by omega)]
  exact (if_neg (by omega) : (if (1 : Nat) = 0 ∧ j = 35 then (-1 : Int32) else 0) = 0)
theorem zM0_1 (j : Nat) : zM0.1 1 j = t0M.getD j 0 := (if_pos rfl : (if (1 : Nat) = 1 then t0M.getD j 0 else if (1 : Nat) = 2 ∧ j = 0 then (48 : Int32) else if (1 : Nat) = 0 ∧ j = 3 then 1 else if (1 : Nat) = 0 ∧ j = 35 then -1 else 0) = t0M.getD j 0)
theorem zM0_r {k j : Nat} (h1 : k ≠ 1) (h2 : ¬ (k = 2 ∧ j = 0)) (h3 : ¬ (k = 0 ∧ j = 3)) : zM0.1 k j = zM1.1 k j :=
  (if_neg h1).trans ((if_neg h2).trans ((if_neg h3).trans rfl))
/-- behind the letters and the two numbers it is the memory of part 83 -/
theorem zM2_0 : z_pt (z_pt zM2 2 0 48) 0 3 1 = zM0 := by
  have e : (z_pt (z_pt zM2 2 0 48) 0 3 1).1 = zM0.1 := by
    funext k j
    rw [z_pt_f, z_pt_f]
    by_cases h3 : k = 0 ∧ j = 3
    · obtain ⟨rfl, rfl⟩ := h3
      exact (if_pos ⟨rfl, rfl⟩).trans rfl
    · rw [if_neg h3]
      by_cases h2 : k = 2 ∧ j = 0
      · obtain ⟨rfl, rfl⟩ := h2
        exact (if_pos ⟨rfl, rfl⟩).trans rfl
      · rw [if_neg h2]
        by_cases h1 : k = 1
        · subst h1
          rw [zM0_1]
          by_cases hj : j < 48
          · exact zM2_lt j hj
          · rw [zM2_n (by omega), List.getD_eq_getElem?_getD, List.getElem?_eq_none (by rw [show t0M.length = 48 by decide]; omega)]
            rfl
        · rw [zM2_r h1, zM0_r h1 h2 h3]
  have e2 : (z_pt (z_pt zM2 2 0 48) 0 3 1).2 = zM0.2 := rfl
  exact Prod.ext e e2
