/-! the class's reader: the whole text -/
section RD
variable {h0 h h' : Hp} {x o a n : Nat} {X : TX} {T : Nat → Int32}
def SY (x o a k : Nat) : Prop := (a = x + 2 ∧ k ≤ 12) ∨ (x + 3 ≤ a ∧ a ≤ x + 5) ∨ (a = o ∧ (k ≤ 2 ∨ k = 4 ∨ k = 6 ∨ k = 12 ∨ k = 13)) ∨ (o + 2 ≤ a ∧ a ≤ o + 14)
theorem SX_SY {a k : Nat} (e : SX x o a k) : SY x o a k := by
  unfold SX at e
  unfold SY
  omega
def SO (o a k : Nat) : Prop := (a = o ∧ (k ≤ 2 ∨ k = 4 ∨ k = 6 ∨ k = 12 ∨ k = 13)) ∨ a = o + 2 ∨ a = o + 6
theorem ok_O_clear (L : LayO h o) : Ok (f_O_clear o h) (fun _ h' => Fr (SO o) h h' ∧ LayO h' o ∧ RdO h' o D0) := by
  have l1 := L.1
  unfold f_O_clear
  refine ok_gd l1 (ok_lt (ok_gd (by exact l1) (ok_lt (ok_gd (by exact l1) (ok_lt (ok_gd (by exact l1) (ok_lt (ok_gd (by exact l1) (ok_lt (ok_gd (by exact l1) (ok_lt (ok_gd (by exact l1) (ok_lt (ok_gd (by exact l1) (ok_bR (by exact L.2.1.2.1) (ok_bd ?_))))))))))))))))
  have F1 : Fr (fun a k => a = o ∧ (k ≤ 2 ∨ k = 4 ∨ k = 6 ∨ k = 12 ∨ k = 13)) h (uI (uI (uI (uI (uI (uI (uI h o 0 0) o 1 0) o 2 0) o 4 0) o 6 0) o 12 (-1)) o 13 0) := by
    refine Fr.trans (Fr.trans (Fr.trans (Fr.trans (Fr.trans (Fr.trans ?_ (fr_uI ?_)) (fr_uI ?_)) (fr_uI ?_)) (fr_uI ?_)) (fr_uI ?_)) (fr_uI ?_)
    · exact fr_uI ⟨rfl, by omega⟩
    all_goals exact ⟨rfl, by omega⟩
  have v0 : hI (uI (uI (uI (uI (uI (uI (uI h o 0 0) o 1 0) o 2 0) o 4 0) o 6 0) o 12 (-1)) o 13 0) o 0 = 0 := by rw [hI_uIk (by decide), hI_uIk (by decide), hI_uIk (by decide), hI_uIk (by decide), hI_uIk (by decide), hI_uIk (by decide), hI_uIs]
  have v1 : hI (uI (uI (uI (uI (uI (uI (uI h o 0 0) o 1 0) o 2 0) o 4 0) o 6 0) o 12 (-1)) o 13 0) o 1 = 0 := by rw [hI_uIk (by decide), hI_uIk (by decide), hI_uIk (by decide), hI_uIk (by decide), hI_uIk (by decide), hI_uIs]
  have v2 : hI (uI (uI (uI (uI (uI (uI (uI h o 0 0) o 1 0) o 2 0) o 4 0) o 6 0) o 12 (-1)) o 13 0) o 2 = 0 := by rw [hI_uIk (by decide), hI_uIk (by decide), hI_uIk (by decide), hI_uIk (by decide), hI_uIs]
  have v4 : hI (uI (uI (uI (uI (uI (uI (uI h o 0 0) o 1 0) o 2 0) o 4 0) o 6 0) o 12 (-1)) o 13 0) o 4 = 0 := by rw [hI_uIk (by decide), hI_uIk (by decide), hI_uIk (by decide), hI_uIs]
  have v6 : hI (uI (uI (uI (uI (uI (uI (uI h o 0 0) o 1 0) o 2 0) o 4 0) o 6 0) o 12 (-1)) o 13 0) o 6 = 0 := by rw [hI_uIk (by decide), hI_uIk (by decide), hI_uIs]
  have v12 : hI (uI (uI (uI (uI (uI (uI (uI h o 0 0) o 1 0) o 2 0) o 4 0) o 6 0) o 12 (-1)) o 13 0) o 12 = -1 := by rw [hI_uIk (by decide), hI_uIs]
  have v13 : hI (uI (uI (uI (uI (uI (uI (uI h o 0 0) o 1 0) o 2 0) o 4 0) o 6 0) o 12 (-1)) o 13 0) o 13 = 0 := hI_uIs
  have L1 : LayO (uI (uI (uI (uI (uI (uI (uI h o 0 0) o 1 0) o 2 0) o 4 0) o 6 0) o 12 (-1)) o 13 0) o := L
  generalize (uI (uI (uI (uI (uI (uI (uI h o 0 0) o 1 0) o 2 0) o 4 0) o 6 0) o 12 (-1)) o 13 0) = h1 at *
  refine ok_mono (ok_fillI L1.2.2.2.1 (by decide)) ?_
  intro _ h2 hx
  obtain ⟨F2', e2⟩ := hx
  have F2 := F2'.r
  have L2 : LayO h2 o := by
    unfold LayO
    rw [F2'.2.1, F2'.2.2.2.1]
    exact L1
  refine ok_gd L2.1 (ok_bR L2.2.1.2.2.2.2.2.1 (ok_bd (ok_mono (ok_fillI (L2.2.2.2.2.1 6 (by decide) (by decide)) (by decide)) ?_)))
  intro _ h3 hx
  obtain ⟨F3', e3⟩ := hx
  have F3 := F3'.r
  have L3 : LayO h3 o := by
    unfold LayO
    rw [F3'.2.1, F3'.2.2.2.1]
    exact L2
  have FA : Fr (SO o) h h3 := ((F1.mono (fun a k e => Or.inl e)).trans (F2.mono (fun a k e => Or.inr (Or.inl e)))).trans (F3.mono (fun a k e => Or.inr (Or.inr e)))
  have i0 : ∀ k, hI h3 o k = hI h1 o k := fun k => ((F3.2.2.2 _ _ (by omega)).1).trans (F2.2.2.2 _ _ (by omega)).1
  refine ok_ret ⟨FA, L3, ⟨L3, ⟨?_, ?_, ?_, ?_, ?_, ?_, ?_⟩, fun w hw => absurd hw (Nat.not_lt_zero _), fun f w hf => absurd hf (Nat.not_lt_zero _), fun k hk => absurd hk (Nat.not_lt_zero _), fun k hk => absurd hk (Nat.not_lt_zero _), fun k hk => absurd hk (Nat.not_lt_zero _)⟩, fun f w hf hw => ?_, fun f hf => ?_⟩
  · rw [i0, v0]; rfl
  · rw [i0, v1]; rfl
  · rw [i0, v2]; rfl
  · rw [i0, v4]; rfl
  · rw [i0, v6]; rfl
  · rw [i0, v12]; rfl
  · rw [i0, v13]; rfl
  · rw [(F3.2.2.2 _ _ (by omega)).1, e2 _ (by omega)]
    rfl
  · exact e3 f hf
theorem wf_0 : WfR D0 false N0 := by
  refine ⟨⟨⟨by decide, by decide, by decide, by decide, by decide, by decide, by decide, fun w hw => absurd hw (Nat.not_lt_zero _), fun f w hf => absurd hf (Nat.not_lt_zero _), fun f w hf => absurd hf (Nat.not_lt_zero _), fun k hk => absurd hk (Nat.not_lt_zero _), fun k hk => absurd hk (Nat.not_lt_zero _), fun k hk => absurd hk (Nat.not_lt_zero _)⟩, fun h => absurd h (Nat.not_lt_zero _), fun w hw => absurd hw (Nat.not_lt_zero _)⟩, rfl, fun k hk => absurd hk (Nat.not_lt_zero _), fun f w _ _ => rfl, fun f _ _ => ⟨rfl, rfl⟩, fun w hw => absurd hw (Nat.not_lt_zero _), fun _ => ⟨rfl, rfl, rfl, rfl, rfl⟩⟩
/-- a line's cursor goes on -/
theorem cP_g {k : Nat} {c : CU} (hc : c.1 = 0 → c.2 ≤ X.2) (z : (cP X k c).1 = 0) : c.1 = 0 ∧ c.2 ≤ (cP X k c).2 ∧ (cP X k c).2 ≤ X.2 := by
  obtain ⟨a, b, e⟩ := cP_z z
  have := nxt_b (hc a)
  rw [e]
  exact ⟨a, by show c.2 ≤ nxt X c.2; omega, by show nxt X c.2 ≤ X.2; omega⟩
theorem itn_lz {s : LSt} : ∀ n, (∀ k, k < n → lmore X (itn (lnext X) k s) = true) → (itn (lnext X) n s).2.2.2.1 = 0 → s.2.2.2.1 = 0 := by
  intro n hm z
  cases n with
  | zero => exact z
  | succ n => exact (of_decide_eq_true (hm 0 (by omega))).1
theorem wf_itn {s : LSt} (P : s.2.2.2.1 = 0 → WfR s.1 s.2.1 s.2.2.1) : ∀ k, (∀ j, j < k → lmore X (itn (lnext X) j s) = true) → (itn (lnext X) k s).2.2.2.1 = 0 → WfR (itn (lnext X) k s).1 (itn (lnext X) k s).2.1 (itn (lnext X) k s).2.2.1 := by
  intro k
  induction k with
  | zero => intro _ z; exact P z
  | succ k ih =>
    intro hm z
    have m := of_decide_eq_true (hm k (by omega))
    exact wf_line (s := ((itn (lnext X) k s).1, (itn (lnext X) k s).2.1, (itn (lnext X) k s).2.2.1, cS X (itn (lnext X) k s).2.2.2)) (ih (fun j hj => hm j (by omega)) m.1) z
end RD
