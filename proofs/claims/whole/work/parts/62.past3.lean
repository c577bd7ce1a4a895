/-! the class's past: what is taken back -/
section P3
variable {h : Hp} {p r c j : Nat} {K Im : Nat → Nat → Nat}
theorem ok_P_takeImage (P : RepP h p K c Im j) {i : Nat} (hi : i < j) (hr : hS h r = some (.inr (0, 8))) (hne : r ≠ p ∧ r ≠ p + 1 ∧ r ≠ p + 2) : Ok (f_P_takeImage p (nI i) r h) (fun _ h' => Fk (fun a k => sP p a k ∨ a = r) h h' ∧ RepP h' p K 0 Im j ∧ RepV h' r (Im i)) := by
  obtain ⟨p1, p2, p3, p4, p5, p6, p7, p8, p9, ⟨pl, hpl, p10, p11⟩, p12⟩ := P
  have e0 : (0 : Int32).toNatClampNeg = 0 := by decide
  have e8 : (8 : Int32).toNatClampNeg = 8 := by decide
  unfold f_P_takeImage
  rw [e0, e8, nI_m8, nI_clamp (n := 8 * i) (by omega)]
  refine ok_gd p1 (ok_bR p3 (ok_gd (cpok_n (sp := 8 * i) (dp := 0) p5 hr (by omega) (by decide) (by decide) (by decide)) (ok_lt (ok_gd p1 (ok_lt (ok_ret ⟨(fk_uC (fun k => Or.inr rfl)).trans (fk_uI (Or.inl (Or.inl ⟨rfl, Or.inl rfl⟩))), ?_, ?_⟩))))))
  · refine ⟨p1, p2, p3, p4, p5, by omega, p7, hI_uIs, ?_, ⟨pl, hpl, ?_, fun i hi => absurd hi (Nat.not_lt_zero _)⟩, fun i hi k hk => ?_⟩
    · rw [hI_uIk (by decide), hI_uC, if_neg (fun e => hne.1 e.symm)]
      exact p9
    · rw [hI_uIk (by decide), hI_uC, if_neg (fun e => hne.1 e.symm)]
      exact p10
    · rw [hI_uIa (by omega), hI_uC, if_neg (fun e => hne.2.2 e.symm)]
      exact p12 i hi k hk
  · refine ⟨hr, fun k hk => ?_⟩
    rw [hI_uIa hne.1, hI_uC, if_pos rfl, pk_cpy_in (Nat.zero_le _) (by omega), show 8 * i + (k - 0) = 8 * i + k by omega]
    exact p12 i hi k hk
end P3
