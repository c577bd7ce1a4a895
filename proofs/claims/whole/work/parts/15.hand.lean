def pkv : List Int64 := []
noncomputable def f_m_packed (v0 : Nat) (h : Hp) : Option (Int64 × Hp) := match pkv[v0]? with
  | some x => some (x, h)
  | none => none
theorem t_m_packed {G : GG} (v0 : Nat) (h : Hp) : Mt G M_m_packed 10 [.ref (gT G v0)] cL h (f_m_packed v0 h) := by
  intro r h' hF
  sorry
noncomputable def f_G_init (v0 : Nat) (h : Hp) : Option (Unit × Hp) := none
theorem t_G_init {G : GG} (v0 : Nat) (h : Hp) : Mt G M_G_init 2 [.ref v0] cU h (f_G_init v0 h) := by
  intro r h' hF
  cases hF
