/-! the world that was made -/
def z_ad (l : List Nat) (e0 : Nat → Nat) : Nat → Nat := fun k => if k < 1000 then l.getD k 0 else e0 k
theorem z_arr4 {cA : ClassId} {f g : Nat → Option Nat} (h : ∀ j, j < 4 → f j = g j) : vp_cell cA (4, .inr (.inr (.inr (.inr f)))) = vp_cell cA (4, .inr (.inr (.inr (.inr g)))) := by
  show arrV cA 4 (fun j => va_rf (f j)) = arrV cA 4 (fun j => va_rf (g j))
  unfold arrV
  congr 1
  apply Array.ext
  · simp
  · intro i h1 h2
    have : i < 4 := by simpa using h1
    simp [h i this]
theorem z_setP {D : va_G} {ws : va_W} {H : Heap} {k a : Nat} {x y : va_E} (hP : va_P D vwCl ws H) (hk : ws[k]? = some (a, x)) (h : va_at D vwCl (a, x) H → va_at D vwCl (a, y) H) : va_P D vwCl (ws.set k (a, y)) H := by
  have hl := (List.getElem?_eq_some_iff.mp hk).1
  intro i q hq
  by_cases hi : i = k
  · subst hi
    rw [List.getElem?_set_self hl] at hq
    cases hq
    exact h (hP _ _ hk)
  · rw [List.getElem?_set_ne (Ne.symm hi)] at hq
    exact hP i q hq
theorem zS0_r {k : Nat} (h : ¬ (k = 28 ∨ k = 30 ∨ k = 32 ∨ k = 34)) : zS0.1 k = fun _ => 0 := by
  funext j
  exact if_neg (fun q => h q.1)
def z_lst (ad : Nat → Nat) (cy : z_Cy) (σ : z_Mem) : va_W := [(ad 0, .inr (5, [.ref (ad 1), .ref (ad 5), .ref (ad 7), .ref (ad 12), .ref (ad 17), .ref (ad 22), .ref (ad 27), .int (σ.1 0 7)])), (ad 1, .inr (4, [.ref (ad 2), .ref (ad 3), .ref (ad 4), .int (σ.1 1 3), .int (σ.1 1 4)])), (ad 2, .inl (cy.1, 960, .inl (σ.1 2))), (ad 3, .inl (cy.1, 18, .inl (σ.1 3))), (ad 4, .inl (cy.1, 64, .inl (σ.1 4))), (ad 5, .inr (2, [.ref (ad 1), .ref (ad 6), .int (σ.1 5 2), .int (σ.1 5 3), .int (σ.1 5 4), .int (σ.1 5 5), .int (σ.1 5 6)])), (ad 6, .inl (cy.1, 160, .inl (σ.1 6))), (ad 7, .inr (0, [.ref (ad 1), .ref (ad 8), .ref (ad 9), .ref (ad 10), .ref (ad 11), .int (σ.1 7 5), .int (σ.1 7 6), .int (σ.1 7 7), .int (σ.1 7 8), .int (σ.1 7 9)])), (ad 8, .inl (cy.1, 6, .inl (σ.1 8))), (ad 9, .inl (cy.1, 6, .inl (σ.1 9))), (ad 10, .inl (cy.1, 6, .inl (σ.1 10))), (ad 11, .inl (cy.1, 6, .inl (σ.1 11))), (ad 12, .inr (0, [.ref (ad 1), .ref (ad 13), .ref (ad 14), .ref (ad 15), .ref (ad 16), .int (σ.1 12 5), .int (σ.1 12 6), .int (σ.1 12 7), .int (σ.1 12 8), .int (σ.1 12 9)])), (ad 13, .inl (cy.1, 6, .inl (σ.1 13))), (ad 14, .inl (cy.1, 6, .inl (σ.1 14))), (ad 15, .inl (cy.1, 6, .inl (σ.1 15))), (ad 16, .inl (cy.1, 6, .inl (σ.1 16))), (ad 17, .inr (0, [.ref (ad 1), .ref (ad 18), .ref (ad 19), .ref (ad 20), .ref (ad 21), .int (σ.1 17 5), .int (σ.1 17 6), .int (σ.1 17 7), .int (σ.1 17 8), .int (σ.1 17 9)])), (ad 18, .inl (cy.1, 6, .inl (σ.1 18))), (ad 19, .inl (cy.1, 6, .inl (σ.1 19))), (ad 20, .inl (cy.1, 6, .inl (σ.1 20))), (ad 21, .inl (cy.1, 6, .inl (σ.1 21))), (ad 22, .inr (1, [.ref (ad 23), .ref (ad 24), .ref (ad 25), .ref (ad 26), .int (σ.1 22 4), .int (σ.1 22 5)])), (ad 23, .inl (cy.1, 36, .inl (σ.1 23))), (ad 24, .inl (cy.1, 6, .inl (σ.1 24))), (ad 25, .inl (cy.1, 6, .inl (σ.1 25))), (ad 26, .inl (cy.1, 6, .inl (σ.1 26))), (ad 27, .inl (cy.2.2, 4, .inr (.inr (.inr (.inr (fun i => some (ad (28 + 2 * i)))))))), (ad 28, .inr (3, [.ref (ad 29), .int (σ.1 28 1), .int (σ.1 28 2)])), (ad 29, .inl (cy.1, 40, .inl (σ.1 29))), (ad 30, .inr (3, [.ref (ad 31), .int (σ.1 30 1), .int (σ.1 30 2)])), (ad 31, .inl (cy.1, 40, .inl (σ.1 31))), (ad 32, .inr (3, [.ref (ad 33), .int (σ.1 32 1), .int (σ.1 32 2)])), (ad 33, .inl (cy.1, 40, .inl (σ.1 33))), (ad 34, .inr (3, [.ref (ad 35), .int (σ.1 34 1), .int (σ.1 34 2)])), (ad 35, .inl (cy.1, 40, .inl (σ.1 35)))]
def z_mi {α β : Type} (f : Nat → α → β) : Nat → List α → List β
  | _, [] => []
  | n, a :: l => f n a :: z_mi f (n + 1) l
theorem z_mi_at {α β : Type} : ∀ (l : List α) (f : Nat → α → β) (n : Nat), l.mapIdx (fun i => f (n + i)) = z_mi f n l
  | [], f, n => by simp [z_mi]
  | a :: l, f, n => by
    have h : (fun i => f (n + (i + 1))) = fun i => f (n + 1 + i) := funext fun i => by rw [show n + (i + 1) = n + 1 + i by omega]
    rw [List.mapIdx_cons, z_mi, ← z_mi_at l f (n + 1)]
    show f (n + 0) a :: List.mapIdx (fun i => f (n + (i + 1))) l = _
    rw [h, Nat.add_zero]
theorem z_mi_eq {α β : Type} (l : List α) (f : Nat → α → β) : l.mapIdx f = z_mi f 0 l := by
  rw [← z_mi_at l f 0]
  exact congrArg (fun g => List.mapIdx g l) (funext fun i => by rw [Nat.zero_add])
theorem z_wsC {ad : Nat → Nat} {cy : z_Cy} {σ : z_Mem} : z_ws YC ad cy σ = z_lst ad cy σ := by
  unfold z_ws
  rw [z_mi_eq]
  simp only [YC, z_mi, z_E, z_mi_eq, z_slot, z_lst, Nat.reduceAdd, Nat.zero_add]
def z_lst0 (ad : Nat → Nat) (cy : z_Cy) : va_W := [(ad 0, .inr (5, [.ref (ad 1), .ref (ad 5), .ref (ad 7), .ref (ad 12), .ref (ad 17), .ref (ad 22), .ref (ad 27), .int (0)])), (ad 1, .inr (4, [.ref (ad 2), .ref (ad 3), .ref (ad 4), .int (0), .int (0)])), (ad 2, .inl (cy.1, 960, .inl (fun _ => 0))), (ad 3, .inl (cy.1, 18, .inl (fun _ => 0))), (ad 4, .inl (cy.1, 64, .inl (fun _ => 0))), (ad 5, .inr (2, [.ref (ad 1), .ref (ad 6), .int (0), .int (0), .int (0), .int (0), .int (0)])), (ad 6, .inl (cy.1, 160, .inl (fun _ => 0))), (ad 7, .inr (0, [.ref (ad 1), .ref (ad 8), .ref (ad 9), .ref (ad 10), .ref (ad 11), .int (0), .int (0), .int (0), .int (0), .int (0)])), (ad 8, .inl (cy.1, 6, .inl (fun _ => 0))), (ad 9, .inl (cy.1, 6, .inl (fun _ => 0))), (ad 10, .inl (cy.1, 6, .inl (fun _ => 0))), (ad 11, .inl (cy.1, 6, .inl (fun _ => 0))), (ad 12, .inr (0, [.ref (ad 1), .ref (ad 13), .ref (ad 14), .ref (ad 15), .ref (ad 16), .int (0), .int (0), .int (0), .int (0), .int (0)])), (ad 13, .inl (cy.1, 6, .inl (fun _ => 0))), (ad 14, .inl (cy.1, 6, .inl (fun _ => 0))), (ad 15, .inl (cy.1, 6, .inl (fun _ => 0))), (ad 16, .inl (cy.1, 6, .inl (fun _ => 0))), (ad 17, .inr (0, [.ref (ad 1), .ref (ad 18), .ref (ad 19), .ref (ad 20), .ref (ad 21), .int (0), .int (0), .int (0), .int (0), .int (0)])), (ad 18, .inl (cy.1, 6, .inl (fun _ => 0))), (ad 19, .inl (cy.1, 6, .inl (fun _ => 0))), (ad 20, .inl (cy.1, 6, .inl (fun _ => 0))), (ad 21, .inl (cy.1, 6, .inl (fun _ => 0))), (ad 22, .inr (1, [.ref (ad 23), .ref (ad 24), .ref (ad 25), .ref (ad 26), .int (0), .int (0)])), (ad 23, .inl (cy.1, 36, .inl (fun _ => 0))), (ad 24, .inl (cy.1, 6, .inl (fun _ => 0))), (ad 25, .inl (cy.1, 6, .inl (fun _ => 0))), (ad 26, .inl (cy.1, 6, .inl (fun _ => 0))), (ad 27, .inl (cy.2.2, 4, .inr (.inr (.inr (.inr (fun i => some (ad (28 + 2 * i)))))))), (ad 28, .inr (3, [.ref (ad 29), .int (-1), .int (0)])), (ad 29, .inl (cy.1, 40, .inl (fun _ => 0))), (ad 30, .inr (3, [.ref (ad 31), .int (-1), .int (0)])), (ad 31, .inl (cy.1, 40, .inl (fun _ => 0))), (ad 32, .inr (3, [.ref (ad 33), .int (-1), .int (0)])), (ad 33, .inl (cy.1, 40, .inl (fun _ => 0))), (ad 34, .inr (3, [.ref (ad 35), .int (-1), .int (0)])), (ad 35, .inl (cy.1, 40, .inl (fun _ => 0)))]
theorem z_wsC0 {ad : Nat → Nat} {cy : z_Cy} : z_ws YC ad cy zS0 = z_lst0 ad cy := by
  rw [z_wsC]
  have e0 : zS0.1 0 = fun _ => 0 := zS0_r (by decide)
  have e1 : zS0.1 1 = fun _ => 0 := zS0_r (by decide)
  have e2 : zS0.1 2 = fun _ => 0 := zS0_r (by decide)
  have e3 : zS0.1 3 = fun _ => 0 := zS0_r (by decide)
  have e4 : zS0.1 4 = fun _ => 0 := zS0_r (by decide)
  have e5 : zS0.1 5 = fun _ => 0 := zS0_r (by decide)
  have e6 : zS0.1 6 = fun _ => 0 := zS0_r (by decide)
  have e7 : zS0.1 7 = fun _ => 0 := zS0_r (by decide)
  have e8 : zS0.1 8 = fun _ => 0 := zS0_r (by decide)
  have e9 : zS0.1 9 = fun _ => 0 := zS0_r (by decide)
  have e10 : zS0.1 10 = fun _ => 0 := zS0_r (by decide)
  have e11 : zS0.1 11 = fun _ => 0 := zS0_r (by decide)
  have e12 : zS0.1 12 = fun _ => 0 := zS0_r (by decide)
  have e13 : zS0.1 13 = fun _ => 0 := zS0_r (by decide)
  have e14 : zS0.1 14 = fun _ => 0 := zS0_r (by decide)
  have e15 : zS0.1 15 = fun _ => 0 := zS0_r (by decide)
  have e16 : zS0.1 16 = fun _ => 0 := zS0_r (by decide)
  have e17 : zS0.1 17 = fun _ => 0 := zS0_r (by decide)
  have e18 : zS0.1 18 = fun _ => 0 := zS0_r (by decide)
  have e19 : zS0.1 19 = fun _ => 0 := zS0_r (by decide)
  have e20 : zS0.1 20 = fun _ => 0 := zS0_r (by decide)
  have e21 : zS0.1 21 = fun _ => 0 := zS0_r (by decide)
  have e22 : zS0.1 22 = fun _ => 0 := zS0_r (by decide)
  have e23 : zS0.1 23 = fun _ => 0 := zS0_r (by decide)
  have e24 : zS0.1 24 = fun _ => 0 := zS0_r (by decide)
  have e25 : zS0.1 25 = fun _ => 0 := zS0_r (by decide)
  have e26 : zS0.1 26 = fun _ => 0 := zS0_r (by decide)
  have e27 : zS0.1 27 = fun _ => 0 := zS0_r (by decide)
  have e29 : zS0.1 29 = fun _ => 0 := zS0_r (by decide)
  have e31 : zS0.1 31 = fun _ => 0 := zS0_r (by decide)
  have e33 : zS0.1 33 = fun _ => 0 := zS0_r (by decide)
  have e35 : zS0.1 35 = fun _ => 0 := zS0_r (by decide)
  have f28 : zS0.1 28 1 = -1 := by decide
  have g28 : zS0.1 28 2 = 0 := by decide
  have f30 : zS0.1 30 1 = -1 := by decide
  have g30 : zS0.1 30 2 = 0 := by decide
  have f32 : zS0.1 32 1 = -1 := by decide
  have g32 : zS0.1 32 2 = 0 := by decide
  have f34 : zS0.1 34 1 = -1 := by decide
  have g34 : zS0.1 34 2 = 0 := by decide
  simp only [z_lst, z_lst0, e0, e1, e2, e3, e4, e5, e6, e7, e8, e9, e10, e11, e12, e13, e14, e15, e16, e17, e18, e19, e20, e21, e22, e23, e24, e25, e26, e27, e29, e31, e33, e35, f28, g28, f30, g30, f32, g32, f34, g34]
theorem z_made {D : va_G} {cy : z_Cy} {H : Heap} (e0 : Nat → Nat) {h0 t t1 t2 t3 r r1 a a1 a2 a3 a4 b b1 b2 b3 b4 k k1 k2 k3 k4 o o1 o2 o3 o4 y s0 r0 s1 q1 s2 q2 s3 q3 : Nat}
    (hP : va_P D vwCl (z_w4 cy y s0 r0 s1 q1 s2 q2 s3 q3 ((h0, .inr (5, [.ref t, .ref r, .ref a, .ref b, .ref k, .ref o, .ref y, .int 0])) :: ((mkX4 cy t t1 t2 t3 ++ mkX2 cy r t r1 ++ mkX0 cy a t a1 a2 a3 a4 ++ mkX0 cy b t b1 b2 b3 b4 ++ mkX0 cy k t k1 k2 k3 k4 ++ mkX1 cy o o1 o2 o3 o4) ++ [z_ra cy y 4 (fun _ => none)]))) H) :
    va_P D vwCl (z_ws YC (z_ad [h0, t, t1, t2, t3, r, r1, a, a1, a2, a3, a4, b, b1, b2, b3, b4, k, k1, k2, k3, k4, o, o1, o2, o3, o4, y, s0, r0, s1, q1, s2, q2, s3, q3] e0) cy zS0) H := by
  rw [z_wsC0]
  refine z_setP (k := 27) (a := y) hP rfl (fun h => ?_)
  show H[y]? = some (vp_cell _ _)
  replace h : H[y]? = some (vp_cell _ _) := h
  rw [h]
  refine congrArg some (z_arr4 (fun j hj => ?_))
  rcases (show j = 0 ∨ j = 1 ∨ j = 2 ∨ j = 3 by omega) with rfl | rfl | rfl | rfl <;> rfl
