/-! WallsOfPrisoners() -/
theorem z_adE {l : List Nat} {e0 : Nat → Nat} : ∀ k, 1000 ≤ k → z_ad l e0 k = e0 k := fun k hk => if_neg (by omega)
def z_P5 (D : va_G) (cy : z_Cy) (h0 sz : Nat) (e0 : Nat → Nat) : Array Value → State → Prop := va_Pc [.ref h0] (fun U => U.heap.size = sz ∧ va_P D vwCl [(h0, .inr (5, [.null, .null, .null, .null, .null, .null, .null, .int 0]))] U.heap ∧ va_K D vwCl (z_tys cy) U ∧ va_AO RX3 U ∧ va_Nw (.methodLinkNest RX5 11 yX4_init RX5) U ∧ va_Nw (.methodLinkNest RX5 40 yX1_init RX5) U ∧ va_Nw (.methodLinkNest RX5 51 yX3_init RX5) U ∧ z_Env e0 (z_An h0 sz) U U.heap)
def z_Q5 (D : va_G) (cy : z_Cy) (h0 sz : Nat) (e0 : Nat → Nat) (P : z_Mem → Prop) : Array Value → State → Outcome → State → Prop :=
  fun _ st oc t => oc = .returned none ∧ (∃ (ad : Nat → Nat) (σ : z_Mem), z_inj YC ad ∧ ad 0 = h0 ∧ (∀ q, z_A ad YC.length q → z_An h0 sz q) ∧ (∀ k, 1000 ≤ k → ad k = e0 k) ∧ va_P D vwCl (z_ws YC ad cy σ) t.heap ∧ P σ) ∧ va_F (z_An h0 sz) st t
set_option maxHeartbeats 4000000 in
set_option maxRecDepth 100000 in
theorem nX5 (l : Launch) (D : va_G) (cy : z_Cy) (h0 sz : Nat) (e0 : Nat → Nat) {A B C : pV} {sR : Nat} (hpR : pRead t0L = (some ((A, [10000, 10004, 20045]), (B, [3]), (C, [1])), sR)) : Met l yX5_init (z_wl mX5_init) { frames := 80, cells := 200, slots := 4000, locals := 2400 } (z_P5 D cy h0 sz e0) (z_Q5 D cy h0 sz e0 (fun σ => cG σ (g0 A B C))) 200 4000 (z_An h0 sz) := by
  refine Met.ofW (cc := cX5_init) (maxL := 3) (ret := none) (by decide) rfl ?_
  intro p e s m args below meth c s₁ BB hml hv
  obtain ⟨rfl, hsz, hP, hK, hO, hN1, hN2, hN3, hE⟩ := hv
  have hts := atoms_spec (ws := z_wl mX5_init) BB.pre
  have C0 : z_K0 RX5 cX5_init 3 p s m _ meth c D cy := ⟨BB.exec, BB.bytes, hml, findClass_of_methodNamed BB.named, fun w hw => hts w (List.mem_cons_of_mem _ hw), hK, (name_of_methodNamed BB.named BB.method).1⟩
  have hr := BB.returns
  have hlocks := BB.notSynchronized
  subst hsz
  have hD : va_D (z_An h0 s.heap.size) [(h0, .inr (5, [.null, .null, .null, .null, .null, .null, .null, .int 0]))] := z_Dn
  have hA : ∀ q : Nat, s.heap.size ≤ q → z_An h0 s.heap.size q := fun q h => Or.inr h
  have hS : va_S (z_An h0 s.heap.size) s.heap s.heap [] := va_S.rf
  have hl := lv_entry ([.ref h0]) (n := 3) (Nat.le_of_ble_eq_true rfl)
  rw [lg_entry_eq]
  generalize (lg_sl ([.ref h0]) ++ List.replicate (3 - (lg_sl ([.ref h0])).length) Slot.unset).toArray = ls at hl ⊢
  have hl : lv_has ls 3 [(0, .ref h0)] := hl
  refine wX5_a hN1 hN2 C0 hP hD hS hA hl ⟨by decide, by decide⟩ (by decide) (by decide) (fun t t1 t2 t3 r r1 a a1 a2 a3 a4 b b1 b2 b3 b4 k k1 k2 k3 k4 o o1 o2 o3 o4 H locs ls hP hD hS hl => ?_)
  refine wX5_b hO hN3 C0 hP hD hS hA hl ⟨by decide, by decide⟩ (by decide) (by decide) rfl rfl (fun y s0 r0 s1 q1 s2 q2 s3 q3 H locs ls hP hD hS hl => ?_)
  have hP2 := z_made e0 hP
  obtain ⟨hij, hsub⟩ := z_injOf (Y := YC) (ad := z_ad [h0, t, t1, t2, t3, r, r1, a, a1, a2, a3, a4, b, b1, b2, b3, b4, k, k1, k2, k3, k4, o, o1, o2, o3, o4, y, s0, r0, s1, q1, s2, q2, s3, q3] e0) hD rfl
  have hE2 := (z_ad_env (l := [h0, t, t1, t2, t3, r, r1, a, a1, a2, a3, a4, b, b1, b2, b3, b4, k, k1, k2, k3, k4, o, o1, o2, o3, o4, y, s0, r0, s1, q1, s2, q2, s3, q3]) hE).le hsub
  have had0 : z_ad [h0, t, t1, t2, t3, r, r1, a, a1, a2, a3, a4, b, b1, b2, b3, b4, k, k1, k2, k3, k4, o, o1, o2, o3, o4, y, s0, r0, s1, q1, s2, q2, s3, q3] e0 0 = h0 := rfl
  have hadE := z_adE (l := [h0, t, t1, t2, t3, r, r1, a, a1, a2, a3, a4, b, b1, b2, b3, b4, k, k1, k2, k3, k4, o, o1, o2, o3, o4, y, s0, r0, s1, q1, s2, q2, s3, q3]) (e0 := e0)
  generalize z_ad [h0, t, t1, t2, t3, r, r1, a, a1, a2, a3, a4, b, b1, b2, b3, b4, k, k1, k2, k3, k4, o, o1, o2, o3, o4, y, s0, r0, s1, q1, s2, q2, s3, q3] e0 = ad at hP2 hij hsub hE2 had0 hadE
  subst had0
  have hS2 : z_S2 (z_A ad YC.length) (z_An (ad 0) s.heap.size) s.heap H locs := ⟨⟨hS.1, fun q h1 h2 => hS.2.1 q h1 (fun z => by
    rcases z with z | z
    · exact h2 ⟨0, by decide, z⟩
    · omega), fun q hq => by cases hq⟩, hS.2.2⟩
  refine lv_iconst (v := 0) BB.exec BB.bytes dX5_init_110 rfl ?_
  refine lv_istore_n (lv' := [(2, .int 0), (1, .ref t), (0, .ref (ad 0))]) BB.exec BB.bytes dX5_init_111 rfl hl (by decide) rfl (fun ls hl => ?_)
  refine wX5_lp hsub C0 hij hE2 ⟨by decide, by decide⟩ ⟨by decide, by decide⟩ (fun σ H locs ls ht h0 hP hS hl => ?_) 43 0 rfl zS0 H locs ls ⟨by rfl, fun i hi => absurd hi (by simp)⟩ (fun _ _ _ => rfl) hP2 hS2 hl
  obtain ⟨b9, σ9, e9, g9⟩ := c_init hpR ht h0
  refine wX5_rd hsub C0 hij hE2 ⟨by decide, by decide⟩ ⟨by decide, by decide⟩ hP hS hl e9 (fun H locs hP hS => ?_)
  refine W.widen (k := 200) (n := 4000) (by decide) (by decide) ?_
  exact W.vret BB.exec BB.bytes hr (fun t ht hW => ⟨rfl, ⟨ad, σ9, hij, rfl, hsub, hadE, by rw [ht]; exact hP, g9⟩, ⟨by rw [ht]; exact hS.1.1, fun q h1 h2 => by rw [ht]; exact hS.1.2.1 q h1 (fun z => h2 (hsub q z))⟩⟩) hS.2 dX5_init_149
