/-! the class's past: the latest state taken back -/
theorem ring_2 {pl i : Nat} (h : pl < 16) (hi : i < 15) : ((if pl = 0 then 15 else pl - 1) + 15 - i) % 16 = (pl + 15 - (i + 1)) % 16 := by
  by_cases q : pl = 0
  · rw [if_pos q, q]
    omega
  · rw [if_neg q]
    congr 1
    omega
theorem ring_3 {pl : Nat} (h : pl < 16) : (pl + 15 - 0) % 16 = if pl = 0 then 15 else pl - 1 := by
  by_cases q : pl = 0
  · rw [if_pos q, q]
  · rw [if_neg q]
    omega
theorem ok_P_takeLatest {h : Hp} {p r c j : Nat} {K Im : Nat → Nat → Nat} (P : RepP h p K (c + 1) Im j) (hr : hS h r = some (.inr (0, 8))) (hne : r ≠ p ∧ r ≠ p + 1 ∧ r ≠ p + 2) : Ok (f_P_takeLatest p r h) (fun _ h' => Fk (fun a k => sP p a k ∨ a = r) h h' ∧ RepP h' p (fun i => K (i + 1)) c Im j ∧ RepV h' r (K 0)) := by
  obtain ⟨p1, p2, p3, p4, p5, p6, p7, p8, p9, ⟨pl, hpl, p10, p11⟩, p12⟩ := P
  have e0 : (0 : Int32).toNatClampNeg = 0 := by decide
  have e8 : (8 : Int32).toNatClampNeg = 8 := by decide
  unfold f_P_takeLatest
  have fin : ∀ y : Int32, y = nI (if pl = 0 then 15 else pl - 1) → Ok (b_P_takeLatest_19 p r y p h) (fun _ h' => Fk (fun a k => sP p a k ∨ a = r) h h' ∧ RepP h' p (fun i => K (i + 1)) c Im j ∧ RepV h' r (K 0)) := by
    intro y hy
    unfold b_P_takeLatest_19
    rw [e0, e8]
    have hl : (if pl = 0 then 15 else pl - 1) < 16 := by split <;> omega
    have h30 := ring_3 hpl
    generalize (if pl = 0 then 15 else pl - 1) = pk at hy hl h30
    have hrg : ∀ i, i < 15 → (pk + 15 - i) % 16 = (pl + 15 - (i + 1)) % 16 := fun i hi => by rw [← h30]; omega
    subst hy
    refine ok_gd p1 (ok_lt (ok_gd p1 (ok_lt (ok_gd p1 (ok_lt (ok_gd p1 (ok_bR p2 (ok_gd p1 (ok_lt ?_)))))))))
    have q2 : hI (uI h p 3 (nI pk)) p 2 = nI (c + 1) := by rw [hI_uIk (by decide)]; exact p8
    have q3 : hI (uI (uI h p 3 (nI pk)) p 2 (hI (uI h p 3 (nI pk)) p 2 - 1)) p 3 = nI pk := by rw [hI_uIk (by decide), hI_uIs]
    rw [q3, q2, nI_pred, nI_m8, nI_clamp (n := 8 * pk) (by omega)]
    refine ok_gd (cpok_n (sp := 8 * pk) (dp := 0) p4 hr (by omega) (by decide) (by decide) (by decide)) (ok_lt (ok_ret ⟨((fk_uI (Or.inl (Or.inl ⟨rfl, Or.inr (Or.inl rfl)⟩))).trans (fk_uI (Or.inl (Or.inl ⟨rfl, Or.inl rfl⟩)))).trans (fk_uC (fun k => Or.inr rfl)), ?_, ?_⟩))
    · refine ⟨p1, p2, p3, p4, p5, by omega, p7, ?_, ?_, ⟨pk, hl, ?_, fun i hi k hk => ?_⟩, fun i hi k hk => ?_⟩
      · rw [hI_uC, if_neg (fun e => hne.1 e.symm), hI_uIs]
      · rw [hI_uC, if_neg (fun e => hne.1 e.symm), hI_uIk (by decide), hI_uIk (by decide)]
        exact p9
      · rw [hI_uC, if_neg (fun e => hne.1 e.symm), hI_uIk (by decide), hI_uIs]
      · rw [hI_uC, if_neg (fun e => hne.2.1 e.symm), hI_uIa (by omega), hI_uIa (by omega), hrg i (by omega)]
        exact p11 (i + 1) (by omega) k hk
      · rw [hI_uC, if_neg (fun e => hne.2.2 e.symm), hI_uIa (by omega), hI_uIa (by omega)]
        exact p12 i hi k hk
    · refine ⟨hr, fun k hk => ?_⟩
      rw [hI_uC, if_pos rfl, pk_cpy_in (Nat.zero_le _) (by omega), show 8 * pk + (k - 0) = 8 * pk + k by omega, hI_uIa (by omega), hI_uIa (by omega)]
      have g := p11 0 (by omega) k hk
      rw [h30] at g
      exact g
  refine ok_gd p1 (ok_lt ?_)
  rw [p10]
  refine ok_ite (fun c1 => fin _ ?_) (fun c1 => ok_gd p1 (ok_lt (fin _ ?_)))
  · have e : pl = 0 := (nI_eq (b := 0) (by omega) (by decide)).mp c1
    rw [if_pos e]
    rfl
  · have e : pl ≠ 0 := fun e => c1 (by rw [e]; rfl)
    rw [if_neg e]
    have e2 := nI_pred (pl - 1)
    rw [show pl - 1 + 1 = pl by omega] at e2
    exact e2
