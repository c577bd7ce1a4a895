/-! orders of works at the reference -/
def sMo (m a k : Nat) : Prop := a = m + 7
def ordB (h : Hp) (m N : Nat) (o : Nat → Nat) : Prop := ∀ i, i < N → hI h (m + 7) i = nI (o i)
/-- what the orders need -/
def OX (h : Hp) (m q : Nat) (D : DD) : Prop := LayM h m ∧ hR h m 3 = some q ∧ m + 14 ≤ q ∧ RepQ h q D ∧ Wf D
theorem OX.fk {S : Nat → Nat → Prop} {h h' : Hp} {m q : Nat} {D : DD} (X : OX h m q D) (F : Fk S h h') (hS' : ∀ a k, S a k → a < m + 14) : OX h' m q D := by
  obtain ⟨x1, x2, x3, x4, x5⟩ := X
  exact ⟨x1.fk F, by rw [F.2.2.2.1]; exact x2, x3, x4.fk F (fun i k hi e => by have := hS' _ _ e; omega), x5⟩
section MO
variable {h : Hp} {m q N : Nat} {D : DD} {o : Nat → Nat}
theorem ok_m_swaps (X : OX h m q D) (hN : N ≤ 4) (hO : ordB h m N o) {a b : Nat} (ha : a < N) (hb : b < N) : Ok (f_m_swaps m (nI a) (nI b) h) (fun _ h' => Fk (sMo m) h h' ∧ ordB h' m N (swN o a b)) := by
  obtain ⟨a0, ⟨a1, a2, a3, a4, a5, a6, a7, a8, a9, -⟩, s1, s2, s3, s4, s5, s6, s7, s8, s9, -⟩ := id X.1
  have ha4 : a < 4 := by omega
  have hb4 : b < 4 := by omega
  unfold f_m_swaps
  (try unfold QB); (try unfold QM); repeat (first | (with_reducible refine ok_lt ?_) | ((with_reducible refine ok_gd ?_ ?_); first | assumption | exact zb0 | exact zb1 | ((with_reducible apply ai_of) <;> first | assumption | omega | decide) | exact ai_lit (by assumption) (by decide) (by decide) (by decide)) | (refine ok_bR (by assumption) ?_))
  (try simp (disch := omega) only [nI_clamp, cl0, cl1, cl2, cl3, cl4, cl5, cl6, cl7, cl8])
  rw [hO a ha, hO b hb]
  refine ok_ret ⟨(fk_uI (S := sMo m) (a := m + 7) rfl).trans (fk_uI (S := sMo m) (a := m + 7) rfl), fun i hi => ?_⟩
  unfold swN
  rw [hI_uI]
  by_cases e : i = b
  · rw [if_pos ⟨rfl, e⟩, if_pos e]
  · rw [if_neg (fun g => e g.2), if_neg e, hI_uI]
    by_cases e2 : i = a
    · rw [if_pos ⟨rfl, e2⟩, if_pos e2]
    · rw [if_neg (fun g => e2 g.2), if_neg e2]
      exact hO i hi
theorem ok_m_rev (X : OX h m q D) (hN : N ≤ 4) (n : Nat) : ∀ (f : Nat) (o : Nat → Nat) (a b : Nat) (h : Hp), OX h m q D → ordB h m N o → (b < N ∨ b ≤ a) → b ≤ a + 2 * n → a ≤ 4 → b ≤ 4 → Ok (l_m_nextOrder_95 (f + n + 1) (m, nI a, nI b) h) (fun y h' => y = 1 ∧ Fk (sMo m) h h' ∧ ordB h' m N (rvN n o a b)) := by
  induction n with
  | zero =>
    intro f o a b h X hO hb hab ha4 hb4
    show Ok (b_m_nextOrder_95 (l_m_nextOrder_95 f) m (nI a) (nI b) h) _
    unfold b_m_nextOrder_95
    exact ok_t (nI_le (by omega) (by omega)) (ok_gd zb1 (ok_ret ⟨rfl, Fk.rf, hO⟩))
  | succ n ih =>
    intro f o a b h X hO hb hab ha4 hb4
    show Ok (b_m_nextOrder_95 (l_m_nextOrder_95 (f + n + 1)) m (nI a) (nI b) h) (fun y h' => y = 1 ∧ Fk (sMo m) h h' ∧ ordB h' m N (if a < b then rvN n (swN o a b) (a + 1) (b - 1) else o))
    unfold b_m_nextOrder_95
    refine ok_ile (by omega) (by omega) (fun c => ?_) (fun c => ?_)
    · rw [if_neg (by omega)]
      exact ok_gd zb1 (ok_ret ⟨rfl, Fk.rf, hO⟩)
    · rw [if_pos c]
      refine ok_gd X.1.1 (ok_bd (ok_mono (ok_m_swaps X hN hO (a := a) (b := b) (by omega) (by omega)) ?_))
      intro _ h1 hx
      obtain ⟨hF1, hO1⟩ := hx
      have e1 : nI b + -1 = nI (b - 1) := by
        have e2 := pk_m1 (b - 1)
        rw [show b - 1 + 1 = b by omega] at e2
        exact e2
      rw [nI_1, e1]
      refine ok_mono (ih f (swN o a b) (a + 1) (b - 1) h1 (X.fk hF1 (fun a k e => by unfold sMo at e; omega)) hO1 (by omega) (by omega) (by omega) (by omega)) (fun y h2 hh => ⟨hh.1, hF1.trans hh.2.1, hh.2.2⟩)
theorem nxN_some {k : Nat} (h : fkN o (N - 1) = some k) : nxN N o = some (rvN 4 (swN o k (fjN o (o k) (N - 1))) (k + 1) (N - 1)) := by
  unfold nxN
  rw [h]
theorem fj_le (x : Nat) (j : Nat) : fjN o x j ≤ j := by
  induction j with
  | zero => exact Nat.le_refl _
  | succ j ih =>
    show (if o (j + 1) < x then fjN o x j else j + 1) ≤ _
    split <;> omega
theorem fk_lt {k : Nat} (n : Nat) (h : fkN o n = some k) : k < n := by
  induction n with
  | zero => cases h
  | succ n ih =>
    have h : (if o (n + 1) < o n then fkN o n else some n) = some k := h
    by_cases q : o (n + 1) < o n
    · rw [if_pos q] at h
      have := ih h
      omega
    · rw [if_neg q] at h
      cases h
      omega
theorem nx_found (X : OX h m q D) (hN : N = dN D) (hO : ordB h m N o) (hol : ∀ i, i < N → o i < 4) {k : Nat} (hk : k + 1 < N) (hfk : fkN o (N - 1) = some k) : Ok (b_m_nextOrder_37 m (nI k) h) (fun y h' => Fk (sMo m) h h' ∧ ((y = 0 ∧ nxN N o = none) ∨ (y = 1 ∧ ∃ o', nxN N o = some o' ∧ ordB h' m N o'))) := by
  obtain ⟨x1, x2, x3, x4, W⟩ := id X
  have w3 := W.2.2.1
  have c5 : hI h q 5 = nI N := by rw [hN]; exact x4.2.1.2.2.2.2.2.1
  obtain ⟨a0, ⟨a1, a2, a3, a4, a5, a6, a7, a8, a9, -⟩, s1, s2, s3, s4, s5, s6, s7, s8, s9, -⟩ := id X.1
  have b1 := x4.1.1
  unfold b_m_nextOrder_37
  refine ok_t (nI_pos' (by omega)) ?_
  (try unfold QB); (try unfold QM); repeat (first | (with_reducible refine ok_lt ?_) | ((with_reducible refine ok_gd ?_ ?_); first | assumption | exact zb0 | exact zb1 | ((with_reducible apply ai_of) <;> first | assumption | omega | decide) | exact ai_lit (by assumption) (by decide) (by decide) (by decide)) | (refine ok_bR (by assumption) ?_))
  rw [c5, nI_s (by omega)]
  have hok := hol k (by omega)
  refine ok_dn (fun μ st h' => h' = h ∧ ∃ jj, st = (m, nI k, nI jj) ∧ μ = jj ∧ jj < N ∧ k < jj + 1 ∧ fjN o (o k) jj = fjN o (o k) (N - 1)) ?_ FU (N - 1) _ _ ⟨rfl, N - 1, rfl, rfl, by omega, by omega, rfl⟩ (by show _ < 10000; omega)
  intro k2 μ st h' hI' kc
  obtain ⟨rfl, jj, rfl, hμ, hj, hkj, hfj⟩ := hI'
  show Ok (b_m_nextOrder_53 k2 m (nI k) (nI jj) h') _
  unfold b_m_nextOrder_53
  have hj4 : jj < 4 := by omega
  have hk4 : k < 4 := by omega
  (try unfold QB); (try unfold QM); repeat (first | (with_reducible refine ok_lt ?_) | ((with_reducible refine ok_gd ?_ ?_); first | assumption | exact zb0 | exact zb1 | ((with_reducible apply ai_of) <;> first | assumption | omega | decide) | exact ai_lit (by assumption) (by decide) (by decide) (by decide)) | (refine ok_bR (by assumption) ?_))
  (try simp (disch := omega) only [nI_clamp, cl0, cl1, cl2, cl3, cl4, cl5, cl6, cl7, cl8])
  rw [hO jj hj, hO k (by omega)]
  have hoj := hol jj hj
  refine ok_ile (by omega) (by omega) (fun c => ?_) (fun c => ?_)
  · have ejj : fjN o (o k) (N - 1) = jj := by
      rw [← hfj]
      cases jj with
      | zero => rfl
      | succ j => exact if_neg (by omega)
    refine ok_gd a0 (ok_bd (ok_mono (ok_m_swaps X (by omega) hO (a := k) (b := jj) (by omega) hj) ?_))
    intro _ h1 hx
    obtain ⟨hF1, hO1⟩ := hx
    have X1 := X.fk hF1 (fun a k e => by unfold sMo at e; omega)
    have c51 : hI h1 q 5 = nI N := by rw [hN]; exact X1.2.2.2.1.2.1.2.2.2.2.2.1
    refine ok_lt ?_
    rw [nI_1]
    refine ok_gd X1.1.1 (ok_bR X1.2.1 (ok_gd X1.2.2.2.1.1.1 (ok_lt (ok_lt ?_))))
    rw [c51, nI_s (by omega)]
    refine ok_mono (ok_m_rev X1 (N := N) (by omega) 4 9995 (swN o k jj) (k + 1) (N - 1) h1 X1 hO1 (by omega) (by omega) (by omega) (by omega)) (fun y h2 hh => ⟨hF1.trans hh.2.1, Or.inr ⟨hh.1, _, nxN_some hfk, ?_⟩⟩)
    rw [ejj]
    exact hh.2.2
  · have hne : jj ≠ k := fun e => by rw [e] at c; omega
    have e1 : nI jj + -1 = nI (jj - 1) := by
      have e2 := pk_m1 (jj - 1)
      rw [show jj - 1 + 1 = jj by omega] at e2
      exact e2
    rw [e1]
    refine kc (jj - 1) _ _ (by omega) ⟨rfl, jj - 1, rfl, rfl, by omega, by omega, ?_⟩
    rw [← hfj]
    obtain ⟨j2, rfl⟩ : ∃ j2, jj = j2 + 1 := ⟨jj - 1, by omega⟩
    exact (if_pos c).symm
theorem nx_none (hfk : fkN o (N - 1) = none) (y : Int32) (hy : y < 0) : Ok (b_m_nextOrder_37 m y h) (fun y h' => Fk (sMo m) h h' ∧ ((y = 0 ∧ nxN N o = none) ∨ (y = 1 ∧ ∃ o', nxN N o = some o' ∧ ordB h' m N o'))) := by
  unfold b_m_nextOrder_37
  refine ok_f (Int32.not_le.mpr hy) (ok_gd zb0 (ok_ret ⟨Fk.rf, Or.inl ⟨rfl, ?_⟩⟩))
  unfold nxN
  rw [hfk]
theorem nx_loop (X : OX h m q D) (hN : N = dN D) (hO : ordB h m N o) (hol : ∀ i, i < N → o i < 4) (hz : 0 < N) : Ok (l_m_nextOrder_10 FU (m, nI (N - 1) - 1) h) (fun y h' => Fk (sMo m) h h' ∧ ((y = 0 ∧ nxN N o = none) ∨ (y = 1 ∧ ∃ o', nxN N o = some o' ∧ ordB h' m N o'))) := by
  have w3 := X.2.2.2.2.2.2.1
  refine ok_dn (fun μ st h' => h' = h ∧ ∃ n, st = (m, nI n - 1) ∧ μ = n ∧ n < N ∧ fkN o n = fkN o (N - 1)) ?_ FU (N - 1) _ _ ⟨rfl, N - 1, rfl, rfl, by omega, rfl⟩ (by show _ < 10000; omega)
  intro k μ st h' hI' kc
  obtain ⟨rfl, n, rfl, hμ, hn, hfk⟩ := hI'
  obtain ⟨a0, ⟨a1, a2, a3, a4, a5, a6, a7, a8, a9, -⟩, s1, s2, s3, s4, s5, s6, s7, s8, s9, -⟩ := id X.1
  show Ok (b_m_nextOrder_10 k m (nI n - 1) h') _
  unfold b_m_nextOrder_10
  rcases Nat.eq_zero_or_pos n with e0 | e0
  · subst e0
    exact ok_t (by decide) (nx_none hfk.symm (nI 0 - 1) (by decide))
  · obtain ⟨n, rfl⟩ : ∃ n', n = n' + 1 := ⟨n - 1, by omega⟩
    rw [nI_pred]
    refine ok_f (nI_pos (by omega)) ?_
    rw [nI_1]
    refine ok_gd a0 (ok_bR a7 (ok_gd (ai_of s7 (show n < 4 by omega) (by decide)) (ok_lt (ok_gd a0 (ok_bR a7 (ok_gd (ai_of s7 (show n + 1 < 4 by omega) (by decide)) (ok_lt ?_)))))))
    rw [nI_clamp (n := n) (by omega), nI_clamp (n := n + 1) (by omega), hO n (by omega), hO (n + 1) hn]
    have h1 := hol n (by omega)
    have h2 := hol (n + 1) hn
    have hfs : fkN o (n + 1) = if o (n + 1) < o n then fkN o n else some n := rfl
    refine ok_ile (by omega) (by omega) (fun c => ?_) (fun c => ?_)
    · rw [hfs, if_neg (by omega)] at hfk
      exact nx_found X hN hO hol hn hfk.symm
    · rw [hfs, if_pos c] at hfk
      exact kc n _ _ (by omega) ⟨rfl, n, by rw [Int32.sub_eq_add_neg], rfl, by omega, hfk⟩
theorem ok_m_nextOrder (X : OX h m q D) (hN : N = dN D) (hO : ordB h m N o) (hol : ∀ i, i < N → o i < 4) : Ok (f_m_nextOrder m h) (fun y h' => Fk (sMo m) h h' ∧ ((y = 0 ∧ nxN N o = none) ∨ (y = 1 ∧ ∃ o', nxN N o = some o' ∧ ordB h' m N o'))) := by
  obtain ⟨x1, x2, x3, x4, W⟩ := id X
  have w3 := W.2.2.1
  have c5 : hI h q 5 = nI N := by rw [hN]; exact x4.2.1.2.2.2.2.2.1
  obtain ⟨a0, ⟨a1, a2, a3, a4, a5, a6, a7, a8, a9, -⟩, s1, s2, s3, s4, s5, s6, s7, s8, s9, -⟩ := id X.1
  have b1 := x4.1.1
  unfold f_m_nextOrder
  (try unfold QB); (try unfold QM); repeat (first | (with_reducible refine ok_lt ?_) | ((with_reducible refine ok_gd ?_ ?_); first | assumption | exact zb0 | exact zb1 | ((with_reducible apply ai_of) <;> first | assumption | omega | decide) | exact ai_lit (by assumption) (by decide) (by decide) (by decide)) | (refine ok_bR (by assumption) ?_))
  rw [c5]
  rcases Nat.eq_zero_or_pos N with hz | hz
  · subst hz
    show Ok (b_m_nextOrder_10 (l_m_nextOrder_10 9999) m (nI 0 - 2) h) _
    unfold b_m_nextOrder_10
    exact ok_t (by decide) (nx_none rfl (nI 0 - 2) (by decide))
  · have e2 : nI N - 2 = nI (N - 1) - 1 := by
      have e3 : (-1 : Int32) + -1 = -2 := by decide
      rw [← nI_s hz, Int32.sub_eq_add_neg, Int32.sub_eq_add_neg, Int32.sub_eq_add_neg, Int32.add_assoc, e3]
    rw [e2]
    exact nx_loop X hN hO hol hz
end MO
