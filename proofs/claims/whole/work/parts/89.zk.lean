/-! THE LAW: whatever the bytes ask, both answer the same -/
theorem lw_less : ∀ L, L < 6 → (nI L - 6 : Int32) < nI 0 := by decide
theorem law_pure : LawPure := by
  intro n L xs hL
  have key : Ok (f_Law_law L xs (hp0 n)) (fun r _ => r = 1) := by
    refine law_start (fun h0 I0 => ?_)
    refine ok_up 512 (fun i st h' => st = (n, n + 88, n + 102, nI (6 * i)) ∧ 6 * i ≤ L ∧ LX n h' i) ?_ FU 0 _ _ (Nat.zero_le _) ⟨rfl, Nat.zero_le _, I0⟩ (by show _ < 10000; omega)
    intro k i st h1 hi hI kk
    obtain ⟨rfl, hiL, D, V, K, c, Im, j, T, tl, fa, tr, wh, I1⟩ := hI
    show Ok (b_Law_law_23 L xs k n (n + 88) (n + 102) (nI (6 * i)) h1) _
    by_cases z : 6 * i + 6 ≤ L
    · refine law_step hL z I1 (fun h2 J => ?_)
      unfold b_Law_law_1705
      refine kk _ _ (by omega) ⟨?_, by omega, J⟩
      rw [show nI (6 * i) + 6 = nI (6 * (i + 1)) from nI_add _ 6]
    · unfold b_Law_law_23
      refine ok_t ?_ (ok_gd (by unfold zb; decide) (ok_ret rfl))
      show nI L - 6 < nI (6 * i)
      by_cases y : L < 6
      · rw [show i = 0 by omega]
        exact lw_less L y
      · rw [show nI L - 6 = nI (L - 6) from pk_sub (b := 6) (by omega)]
        exact nI_lt (by omega) (by omega)
  obtain ⟨r, h', e, q⟩ := key
  exact ⟨h', by rw [e, q]⟩
