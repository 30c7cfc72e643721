theorem z_it0 {ws w : va_W} {x e : Nat × va_E} (h : ws[0]? = some e) (hl : 27 < ws.length) : ((ws ++ w).set 27 x)[0]? = some e := by
  rw [List.getElem?_set_ne (by decide), List.getElem?_append_left (by omega)]; exact h
theorem z_it27 {ws w : va_W} {x : Nat × va_E} (hl : 27 < ws.length) : ((ws ++ w).set 27 x)[27]? = some x := by
  rw [List.getElem?_set_self (by simp; omega)]
/-- the world behind the making of the SHEETS -/
def z_w4 (cy : z_Cy) (y s0 r0 s1 r1 s2 r2 s3 r3 : Nat) (ws : va_W) : va_W :=
  ((((((((ws ++ mkX3 cy s0 r0).set 27 (z_ra cy y 4 (va_up (fun _ => none) 0 (some s0)))) ++ mkX3 cy s1 r1).set 27 (z_ra cy y 4 (va_up (va_up (fun _ => none) 0 (some s0)) 1 (some s1)))) ++ mkX3 cy s2 r2).set 27 (z_ra cy y 4 (va_up (va_up (va_up (fun _ => none) 0 (some s0)) 1 (some s1)) 2 (some s2)))) ++ mkX3 cy s3 r3).set 27 (z_ra cy y 4 (va_up (va_up (va_up (va_up (fun _ => none) 0 (some s0)) 1 (some s1)) 2 (some s2)) 3 (some s3))))
section ZX5c
variable {p : Program} {l : Launch} {e : Env} {R : Room} {s : State} {m : MethodId} {args : Array Value} {below : List Frame} {meth : Method} {c : Code} {H : Heap} {locs : List Loc} {cells slots : Nat} {Q : State → Prop}
variable {ls : Array Slot} {D : va_G} {cy : z_Cy} {A : Nat → Prop} {H0 : Heap} {L : va_W}
theorem wX5_b {h0 t : Nat} {fs : List Value} (hO : va_AO RX3 s) (hN : va_Nw (.methodLinkNest RX5 51 yX3_init RX5) s) (C0 : z_K0 RX5 cX5_init 3 p s m args meth c D cy) (hP : va_P D vwCl ((h0, .inr (5, fs)) :: L) H) (hD : va_D A ((h0, .inr (5, fs)) :: L)) (hS : va_S A H0 H locs) (hA : ∀ q, H0.size ≤ q → A q) (hl : lv_has ls 3 [(1, .ref t), (0, .ref h0)]) (hR : 40 ≤ R.frames ∧ 400 ≤ R.locals) (hc : cells + 100 ≤ R.cells) (hs : slots + 2000 ≤ R.slots) (hL : L.length = 26) (hfs : fs.length = 8)
    (kk : ∀ (y s0 r0 s1 r1 s2 r2 s3 r3 : Nat) (H : Heap) (locs : List Loc) (ls : Array Slot), va_P D vwCl (z_w4 cy y s0 r0 s1 r1 s2 r2 s3 r3 ((h0, .inr (5, fs.set 6 (.ref y))) :: (L ++ [z_ra cy y 4 (fun _ => none)]))) H → va_D A (z_w4 cy y s0 r0 s1 r1 s2 r2 s3 r3 ((h0, .inr (5, fs.set 6 (.ref y))) :: (L ++ [z_ra cy y 4 (fun _ => none)]))) → va_S A H0 H locs → lv_has ls 3 [(2, .int 4), (1, .ref t), (0, .ref h0)] → W p l e R s m args below meth c H locs (cells + 9) (slots + 176) Q (F0 m 110 ls [])) : W p l e R s m args below meth c H locs cells slots Q (F0 m 76 ls []) := by
  obtain ⟨hx, hb, hml, hown, hts, hK, hin⟩ := id C0
  refine lv_aload_n hx hb dX5_init_76 rfl (lv_at hl 1 rfl) ?_
  refine lv_iconst hx hb dX5_init_77 rfl ?_
  refine va_newq (D := D) (C := RX3) (N' := 4) hx hb hown (hts _ (zs2 _ (List.mem_of_getElem? (i := 6) rfl))) hO hK hP hD hS hA (by decide) (by decide) (by decide) (by omega) (by omega) dX5_init_78 (fun y cA H hK1 hP hD hS => ?_)
  have := z_tyS hK1
  subst this
  refine va_putF (D := D) (ci := 5) (v := .ref y) (ty := .array (.object RX3)) (C := RX5) (ref := RX5) (T := TX5) (N := 8) hx hb hts inlX5 tyX5 tyX5_ok nmX5 hown hK hP hD hS 0 rfl rfl 6 (by decide) (hts _ (zs2 _ (List.mem_of_getElem? (i := 7) rfl))) (fun _ h => h) rfl hin rfl (by decide +kernel) rfl rfl (by omega) dX5_init_81 (fun H locs hP hD hS => ?_)
  replace hP : va_P D vwCl ((h0, .inr (5, fs.set 6 (.ref y))) :: (L ++ [z_ra cy y 4 (fun _ => none)])) H := hP
  replace hD : va_D A ((h0, .inr (5, fs.set 6 (.ref y))) :: (L ++ [z_ra cy y 4 (fun _ => none)])) := hD
  have he0 : ((h0, .inr (5, fs.set 6 (.ref y))) :: (L ++ [z_ra cy y 4 (fun _ => none)]) : va_W)[0]? = some (h0, .inr (5, fs.set 6 (.ref y))) := rfl
  have hy0 : ((h0, .inr (5, fs.set 6 (.ref y))) :: (L ++ [z_ra cy y 4 (fun _ => none)]) : va_W)[27]? = some (z_ra cy y 4 (fun _ => none)) := by
    rw [List.getElem?_cons_succ, List.getElem?_append_right (by omega), hL]; rfl
  have hf6 : (fs.set 6 (.ref y))[6]? = some (.ref y) := List.getElem?_set_self (by omega)
  replace kk := kk y
  generalize ((h0, .inr (5, fs.set 6 (.ref y))) :: (L ++ [z_ra cy y 4 (fun _ => none)]) : va_W) = ws0 at *
  have hl0 := (List.getElem?_eq_some_iff.mp hy0).1
  refine lv_iconst (v := 0) hx hb dX5_init_84 rfl ?_
  refine lv_istore_n (lv' := [(2, .int 0), (1, .ref t), (0, .ref h0)]) hx hb dX5_init_85 rfl hl (by decide) rfl (fun ls hl => ?_)
  refine wX5_it (i := 0) (j := 1) (f := (fun _ => none)) (y := y) (fs := fs.set 6 (.ref y)) hN C0 hP hD hS hA hl hR (by omega) (by omega) he0 hf6 hy0 (by unfold vp_in; decide) (by decide) (by decide) (fun s0 r0 H locs ls hP hD hS hl => ?_)
  have he1 := z_it0 (w := mkX3 cy s0 r0) (x := z_ra cy y 4 (va_up (fun _ => none) (0 : Int32).toNatClampNeg (some s0))) he0 hl0
  have hy1 := z_it27 (w := mkX3 cy s0 r0) (x := z_ra cy y 4 (va_up (fun _ => none) (0 : Int32).toNatClampNeg (some s0))) hl0
  have hl1 := (List.getElem?_eq_some_iff.mp hy1).1
  refine wX5_it (i := 1) (j := 2) (f := (va_up (fun _ => none) 0 (some s0))) (y := y) (fs := fs.set 6 (.ref y)) hN C0 hP hD hS hA hl hR (by omega) (by omega) he1 hf6 hy1 (by unfold vp_in; decide) (by decide) (by decide) (fun s1 r1 H locs ls hP hD hS hl => ?_)
  have he2 := z_it0 (w := mkX3 cy s1 r1) (x := z_ra cy y 4 (va_up (va_up (fun _ => none) 0 (some s0)) (1 : Int32).toNatClampNeg (some s1))) he1 hl1
  have hy2 := z_it27 (w := mkX3 cy s1 r1) (x := z_ra cy y 4 (va_up (va_up (fun _ => none) 0 (some s0)) (1 : Int32).toNatClampNeg (some s1))) hl1
  have hl2 := (List.getElem?_eq_some_iff.mp hy2).1
  refine wX5_it (i := 2) (j := 3) (f := (va_up (va_up (fun _ => none) 0 (some s0)) 1 (some s1))) (y := y) (fs := fs.set 6 (.ref y)) hN C0 hP hD hS hA hl hR (by omega) (by omega) he2 hf6 hy2 (by unfold vp_in; decide) (by decide) (by decide) (fun s2 r2 H locs ls hP hD hS hl => ?_)
  have he3 := z_it0 (w := mkX3 cy s2 r2) (x := z_ra cy y 4 (va_up (va_up (va_up (fun _ => none) 0 (some s0)) 1 (some s1)) (2 : Int32).toNatClampNeg (some s2))) he2 hl2
  have hy3 := z_it27 (w := mkX3 cy s2 r2) (x := z_ra cy y 4 (va_up (va_up (va_up (fun _ => none) 0 (some s0)) 1 (some s1)) (2 : Int32).toNatClampNeg (some s2))) hl2
  have hl3 := (List.getElem?_eq_some_iff.mp hy3).1
  refine wX5_it (i := 3) (j := 4) (f := (va_up (va_up (va_up (fun _ => none) 0 (some s0)) 1 (some s1)) 2 (some s2))) (y := y) (fs := fs.set 6 (.ref y)) hN C0 hP hD hS hA hl hR (by omega) (by omega) he3 hf6 hy3 (by unfold vp_in; decide) (by decide) (by decide) (fun s3 r3 H locs ls hP hD hS hl => ?_)
  have he4 := z_it0 (w := mkX3 cy s3 r3) (x := z_ra cy y 4 (va_up (va_up (va_up (va_up (fun _ => none) 0 (some s0)) 1 (some s1)) 2 (some s2)) (3 : Int32).toNatClampNeg (some s3))) he3 hl3
  have hy4 := z_it27 (w := mkX3 cy s3 r3) (x := z_ra cy y 4 (va_up (va_up (va_up (va_up (fun _ => none) 0 (some s0)) 1 (some s1)) 2 (some s2)) (3 : Int32).toNatClampNeg (some s3))) hl3
  have hl4 := (List.getElem?_eq_some_iff.mp hy4).1
  refine lv_iload_n hx hb dX5_init_86 rfl (lv_at hl 0 rfl) ?_
  refine lv_iconst (v := 4) hx hb dX5_init_87 rfl ?_
  refine lv_icmp_ge hx hb dX5_init_88 (tgt := 110) rfl (fun _ => ?_) (fun h => absurd (by decide) h)
  exact W.widen (k := cells + 9) (n := slots + 176) (by omega) (by omega) (kk s0 r0 s1 r1 s2 r2 s3 r3 H locs ls hP hD hS hl)
end ZX5c
