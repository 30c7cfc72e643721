/-! the surroundings speak only of the places from 1000 -/
theorem z_Env.ad {ad ad' : Nat → Nat} {A : Nat → Prop} {U : State} {H : Heap} (h : ∀ k, 1000 ≤ k → ad k = ad' k) (hE : z_Env ad A U H) : z_Env ad' A U H := by
  have e1 : ad 2000 = ad' 2000 := h _ (by decide)
  have e2 : (fun i => ad (1000 + i)) = fun i => ad' (1000 + i) := funext fun i => h _ (by omega)
  have e3 : (fun i => ad (1100 + i)) = fun i => ad' (1100 + i) := funext fun i => h _ (by omega)
  obtain ⟨h1, h2, h3, h4, h5, h6, h7, h8⟩ := hE
  rw [e1] at h3 h4
  rw [e2, e3] at h6
  exact ⟨h1, h2, h3, h4, fun i hi => by rw [← h _ (by omega)]; exact h5 i hi, h6, h7, h8⟩
theorem z_ad_env {l : List Nat} {e0 : Nat → Nat} {A : Nat → Prop} {U : State} {H : Heap} (hE : z_Env e0 A U H) : z_Env (z_ad l e0) A U H :=
  hE.ad (fun k hk => by show e0 k = if k < 1000 then _ else _; rw [if_neg (by omega)])
