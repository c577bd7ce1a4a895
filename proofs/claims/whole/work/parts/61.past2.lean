/-! the class's past: what is taken back, images, forgetting -/
section P2
variable {h : Hp} {p r c j : Nat} {K Im : Nat → Nat → Nat}
theorem ok_P_forget (P : RepP h p K c Im j) : Ok (f_P_forget p h) (fun _ h' => Fk (sP p) h h' ∧ RepP h' p K 0 Im 0) := by
  obtain ⟨p1, p2, p3, p4, p5, p6, p7, p8, p9, ⟨pl, hpl, p10, p11⟩, p12⟩ := P
  unfold f_P_forget
  refine ok_gd p1 (ok_lt (ok_gd p1 (ok_lt (ok_ret ⟨(fk_uI (Or.inl ⟨rfl, Or.inl rfl⟩)).trans (fk_uI (Or.inl ⟨rfl, Or.inr (Or.inr rfl)⟩)), p1, p2, p3, p4, p5, by omega, by omega, ?_, hI_uIs, ⟨pl, hpl, ?_, fun i hi => absurd hi (Nat.not_lt_zero _)⟩, fun i hi => absurd hi (Nat.not_lt_zero _)⟩))))
  · rw [hI_uIk (by decide), hI_uIs]
    rfl
  · rw [hI_uIk (by decide), hI_uIk (by decide)]
    exact p10
theorem ok_P_addImage {V : Nat → Nat} (P : RepP h p K c Im j) (hj : j < 3) (v : RepV h r V) : Ok (f_P_addImage p r h) (fun x h' => x = nI j ∧ Fk (sP p) h h' ∧ RepP h' p K c (fun i => if i = j then V else Im i) (j + 1)) := by
  obtain ⟨p1, p2, p3, p4, p5, p6, p7, p8, p9, ⟨pl, hpl, p10, p11⟩, p12⟩ := P
  have e0 : (0 : Int32).toNatClampNeg = 0 := by decide
  have e8 : (8 : Int32).toNatClampNeg = 8 := by decide
  unfold f_P_addImage
  rw [e0, e8, p9]
  refine ok_gd p1 (ok_bR p3 (ok_gd p1 (ok_lt ?_)))
  rw [nI_m8, nI_clamp (n := 8 * j) (by omega)]
  refine ok_gd (cpok_n (sp := 0) (dp := 8 * j) v.1 p5 (by decide) (by omega) (by decide) (by decide)) (ok_lt (ok_gd p1 (ok_lt (ok_gd p1 (ok_lt (ok_gd p1 (ok_lt (ok_ret ?_))))))))
  have q4 : hI (uC h r (p + 2) 0 (8 * j) 8) p 4 = nI j := by rw [hI_uC, if_neg (by omega)]; exact p9
  rw [q4, nI_1, hI_uIs, nI_pred]
  refine ⟨rfl, (fk_uC (fun k => Or.inr (Or.inr rfl))).trans (fk_uI (Or.inl ⟨rfl, Or.inr (Or.inr rfl)⟩)), p1, p2, p3, p4, p5, p6, by omega, ?_, hI_uIs, ⟨pl, hpl, ?_, fun i hi k hk => ?_⟩, fun i hi k hk => ?_⟩
  · rw [hI_uIk (by decide), hI_uC, if_neg (by omega)]
    exact p8
  · rw [hI_uIk (by decide), hI_uC, if_neg (by omega)]
    exact p10
  · rw [hI_uIa (by omega), hI_uC, if_neg (by omega)]
    exact p11 i hi k hk
  · rw [hI_uIa (by omega), hI_uC, if_pos rfl]
    by_cases e : i = j
    · rw [e, pk_cpy_in (by omega) (by omega), show 0 + (8 * j + k - 8 * j) = k by omega]
      show _ = nI ((if j = j then V else Im j) k)
      rw [if_pos rfl]
      exact v.2 k hk
    · rw [pk_cpy_out (by omega)]
      show _ = nI ((if i = j then V else Im i) k)
      rw [if_neg e]
      exact p12 i (by omega) k hk
end P2
