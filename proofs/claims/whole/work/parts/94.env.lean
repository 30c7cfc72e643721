/-! the surroundings speak only of the places from 1000 -/
theorem z_Env.ad {ad ad' : Nat → Nat} {A : Nat → Prop} {U : State} {H : Heap} (h : ∀ k, 1000 ≤ k → ad k = ad' k) (hE : z_Env ad A U H) : z_Env ad' A U H := by
  have e1 : ad 2000 = ad' 2000 := h _ (by decide)
  have e2 : (fun i => ad (1000 + i)) = fun i => ad' (1000 + i) := funext fun i => h _ (by omega)
  have e3 : (fun i => ad (1100 + i)) = fun i => ad' (1100 + i) := funext fun i => h _ (by omega)
  obtain ⟨h1, h2, h3, h4, h5, h6, h7, h8⟩ := hE
  rw [e1] at h3 h4
  rw [e2, e3] at h6
  exact ⟨h1, h2, h3, h4, fun i hi => by rw [← h _ (by omega)]; exact h5 i hi, h6, h7, h8⟩
theorem z_ad_env {l : List Nat} {e0 : Nat → Nat} {A : Nat → Prop} {U : State} {H : Heap} (hE : z_Env e0 A U H) : z_Env (z_ad l e0) A U H :=
  hE.ad (fun k hk => by show e0 k = if k < 1000 then _ else _; rw [if_neg (by omega)])
theorem z_Zle {C n d : String} {v : Value} {A A' : Nat → Prop} {U : State} {H : Heap} (h : ∀ q, A' q → A q) (hZ : va_Z C n d v A U H) : va_Z C n d v A' U H := by
  obtain ⟨cf, kf, fi, f, a, cell, h1, h2, h3, h4, h5, h6, h7, h8⟩ := hZ
  exact ⟨cf, kf, fi, f, a, cell, h1, h2, h3, h4, h5, h6, h7, fun z => h8 (h a z)⟩
theorem z_Tle {ty : FieldType} {t N : Nat} {f : Nat → Value} {A A' : Nat → Prop} {U : State} {H : Heap} (h : ∀ q, A' q → A q) (hT : va_T ty t N f A U H) : va_T ty t N f A' U H := by
  obtain ⟨cell, h1, h2, h3, h4, h5, h6, h7⟩ := hT
  exact ⟨cell, h1, h2, h3, h4, h5, h6, fun z => h7 (h t z)⟩
theorem z_Ole {E : String} {t : Nat} {A A' : Nat → Prop} {U : State} {H : Heap} (h : ∀ q, A' q → A q) (hO : va_O E t A U H) : va_O E t A' U H := by
  obtain ⟨cell, h1, h2, h3, h4⟩ := hO
  exact ⟨cell, h1, h2, h3, fun z => h4 (h t z)⟩
theorem z_OFle {o n d : String} {v : Value} {t : Nat} {A A' : Nat → Prop} {U : State} {H : Heap} (h : ∀ q, A' q → A q) (hO : va_OF o n d v t A U H) : va_OF o n d v t A' U H := by
  obtain ⟨cf, k, i, f, cell, h1, h2, h3, h4, h5, h6⟩ := hO
  exact ⟨cf, k, i, f, cell, h1, h2, h3, h4, h5, fun z => h6 (h t z)⟩
/-- the surroundings, when fewer cells are one's own -/
theorem z_Env.le {ad : Nat → Nat} {A A' : Nat → Prop} {U : State} {H : Heap} (h : ∀ q, A' q → A q) (hE : z_Env ad A U H) : z_Env ad A' U H := by
  obtain ⟨h1, h2, h3, h4, h5, h6, h7, h8⟩ := hE
  refine ⟨h1, h2, z_Zle h h3, z_Tle h h4, h5, ⟨fun i hi => ?_, h6.2⟩, z_Zle h h7, ?_⟩
  · obtain ⟨a1, a2, a3, a4⟩ := h6.1 i hi
    exact ⟨z_Ole h a1, z_OFle h a2, z_OFle h a3, z_Tle h a4⟩
  · rcases h8 with h8 | ⟨t, h8⟩
    · exact Or.inl (z_Zle h h8)
    · exact Or.inr ⟨t, z_Zle h h8⟩
