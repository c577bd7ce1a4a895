/-! the reference's past: rows that are shifted, and images -/
def RepR (h : Hp) (m : Nat) (K : Nat → Nat → Nat) (c : Nat) (Im : Nat → Nat → Nat) (j : Nat) : Prop := c ≤ 16 ∧ j ≤ 3 ∧ hI h m 19 = nI c ∧ hI h m 20 = nI j ∧ (∀ i, i < c → ∀ k, k < 8 → hI h (m + 4) (8 * (c - 1 - i) + k) = xv (K i) k (hI h (m + 4) (8 * (c - 1 - i) + k))) ∧ ∀ i, i < j → ∀ k, k < 8 → hI h (m + 5) (8 * i + k) = xv (Im i) k (hI h (m + 5) (8 * i + k))
theorem RepR.fr {S : Nat → Nat → Prop} {h h' : Hp} {m c j : Nat} {K Im : Nat → Nat → Nat} (P : RepR h m K c Im j) (F : Fr S h h') (h19 : ¬ S m 19) (h20 : ¬ S m 20) (h4 : ∀ k, ¬ S (m + 4) k) (h5 : ∀ k, ¬ S (m + 5) k) : RepR h' m K c Im j := by
  obtain ⟨p1, p2, p3, p4, p5, p6⟩ := P
  obtain ⟨f1, f2, f3, f5⟩ := F
  exact ⟨p1, p2, by rw [(f5 _ _ h19).1]; exact p3, by rw [(f5 _ _ h20).1]; exact p4, fun i hi k hk => by rw [(f5 _ _ (h4 _)).1]; exact p5 i hi k hk, fun i hi k hk => by rw [(f5 _ _ (h5 _)).1]; exact p6 i hi k hk⟩
/-- what remembering writes -/
def sR (m : Nat) (a k : Nat) : Prop := (a = m ∧ k = 19) ∨ a = m + 4
theorem nI_8m (a k : Nat) : 8 * nI a + nI k = nI (8 * a + k) := by
  show nI 8 * nI a + nI k = _
  rw [pk_mul, nI_add]
section MP
variable {h : Hp} {m c j : Nat} {K Im : Nat → Nat → Nat} {V : Nat → Nat}
theorem ok_m_rem48 (hm : LayM h m) (v : RepX h (m + 2) V) (hc : hI h m 19 = nI c) (h16 : c < 16) : Ok (b_m_remembers_48 m h) (fun _ h' => Fk (sR m) h h' ∧ hI h' m 19 = nI (c + 1) ∧ ∀ p, hI h' (m + 4) p = if 8 * c ≤ p ∧ p < 8 * c + 8 then hI h (m + 2) (p - 8 * c) else hI h (m + 4) p) := by
  unfold b_m_remembers_48
  refine ok_lt (ok_up 8 (fun i st h' => st = (m, nI i) ∧ Fk (sR m) h h' ∧ hI h' m 19 = nI c ∧ ∀ p, hI h' (m + 4) p = if 8 * c ≤ p ∧ p < 8 * c + i then hI h (m + 2) (p - 8 * c) else hI h (m + 4) p) ?_ FU 0 _ _ (Nat.zero_le _) ⟨rfl, Fk.rf, hc, fun p => (if_neg (by omega)).symm⟩ (by show _ < 10000; omega))
  intro k i st h' hi hI' kk
  obtain ⟨rfl, hF, hc', hp⟩ := hI'
  have v' : RepX h' (m + 2) V := v.fk hF (fun k e => by rcases e with e | e <;> omega)
  obtain ⟨a0, ⟨a1, a2, a3, a4, a5, -⟩, s1, s2, s3, s4, s5, -⟩ := hm.fk hF
  show Ok (b_m_remembers_50 k m (nI i) h') _
  unfold b_m_remembers_50
  refine ok_it (a := 8) hi (by decide) (fun e => ?_) (fun hl => ?_)
  · (try unfold QB); (try unfold QM); repeat (first | (with_reducible refine ok_lt ?_) | ((with_reducible refine ok_gd ?_ ?_); first | assumption | exact zb0 | exact zb1 | ((with_reducible apply ai_of) <;> first | assumption | omega | decide) | exact ai_lit (by assumption) (by decide) (by decide) (by decide)) | (refine ok_bR (by assumption) ?_))
    rw [hc', nI_1]
    refine ok_ret ⟨hF.trans (fk_uI (Or.inl ⟨rfl, rfl⟩)), hI_uIs, fun p => ?_⟩
    rw [hI_uIa (by omega), hp p, e]
  · (try unfold QB); (try unfold QM); repeat (first | (with_reducible refine ok_lt ?_) | ((with_reducible refine ok_gd ?_ ?_); first | assumption | exact zb0 | exact zb1 | ((with_reducible apply ai_of) <;> first | assumption | omega | decide) | exact ai_lit (by assumption) (by decide) (by decide) (by decide)) | (refine ok_bR (by assumption) ?_))
    rw [hc', nI_8m]
    (try unfold QB); (try unfold QM); repeat (first | (with_reducible refine ok_lt ?_) | ((with_reducible refine ok_gd ?_ ?_); first | assumption | exact zb0 | exact zb1 | ((with_reducible apply ai_of) <;> first | assumption | omega | decide) | exact ai_lit (by assumption) (by decide) (by decide) (by decide)) | (refine ok_bR (by assumption) ?_))
    (try simp (disch := omega) only [nI_clamp, cl0, cl1, cl2, cl3, cl4, cl5, cl6, cl7, cl8])
    rw [show hI h' (m + 2) i = hI h (m + 2) i from (hF.2.2.2.2 (m + 2) i (fun e => by rcases e with e | e <;> omega)).1]
    refine kk _ _ hl ⟨by rw [nI_1], hF.trans (fk_uI (Or.inr rfl)), by rw [hI_uIa (by omega)]; exact hc', fun p => ?_⟩
    rw [hI_uI]
    by_cases e : p = 8 * c + i
    · rw [if_pos ⟨rfl, e⟩, if_pos (by omega), e, show 8 * c + i - 8 * c = i by omega]
    · rw [if_neg (fun g => e g.2), hp p]
      by_cases e2 : 8 * c ≤ p ∧ p < 8 * c + i
      · rw [if_pos e2, if_pos (by omega)]
      · rw [if_neg e2, if_neg (by omega)]
theorem ok_m_remembers (hm : LayM h m) (v : RepX h (m + 2) V) (P : RepR h m K c Im j) : Ok (f_m_remembers m h) (fun _ h' => Fk (sR m) h h' ∧ RepR h' m (shK K V) (min 16 (c + 1)) Im j) := by
  obtain ⟨p1, p2, p3, p4, p5, p6⟩ := P
  unfold f_m_remembers
  have hm0 := hm
  obtain ⟨a0, ⟨a1, a2, a3, a4, a5, -⟩, s1, s2, s3, s4, s5, -⟩ := hm
  (try unfold QB); (try unfold QM); repeat (first | (with_reducible refine ok_lt ?_) | ((with_reducible refine ok_gd ?_ ?_); first | assumption | exact zb0 | exact zb1 | ((with_reducible apply ai_of) <;> first | assumption | omega | decide) | exact ai_lit (by assumption) (by decide) (by decide) (by decide)) | (refine ok_bR (by assumption) ?_))
  rw [p3]
  refine ok_ieq (b := 16) (by omega) (by decide) (fun e => ?_) (fun e => ?_)
  · (try unfold QB); (try unfold QM); repeat (first | (with_reducible refine ok_lt ?_) | ((with_reducible refine ok_gd ?_ ?_); first | assumption | exact zb0 | exact zb1 | ((with_reducible apply ai_of) <;> first | assumption | omega | decide) | exact ai_lit (by assumption) (by decide) (by decide) (by decide)) | (refine ok_bR (by assumption) ?_))
    refine ok_up 120 (fun i st h' => st = (m, nI i) ∧ Fk (sR m) h h' ∧ hI h' m 19 = nI 16 ∧ ∀ p, hI h' (m + 4) p = if p < i then hI h (m + 4) (p + 8) else hI h (m + 4) p) ?_ FU 0 _ _ (Nat.zero_le _) ⟨rfl, Fk.rf, by rw [p3, e], fun p => (if_neg (by omega)).symm⟩ (by show _ < 10000; omega)
    intro k i st h' hi hI' kk
    obtain ⟨rfl, hF, hc', hp⟩ := hI'
    have v' : RepX h' (m + 2) V := v.fk hF (fun k e => by rcases e with e | e <;> omega)
    have hm' := hm0.fk hF
    obtain ⟨a0, ⟨a1, a2, a3, a4, a5, -⟩, s1, s2, s3, s4, s5, -⟩ := hm0.fk hF
    show Ok (b_m_remembers_11 k m (nI i) h') _
    unfold b_m_remembers_11
    refine ok_it (a := 120) hi (by decide) (fun e2 => ?_) (fun hl => ?_)
    · (try unfold QB); (try unfold QM); repeat (first | (with_reducible refine ok_lt ?_) | ((with_reducible refine ok_gd ?_ ?_); first | assumption | exact zb0 | exact zb1 | ((with_reducible apply ai_of) <;> first | assumption | omega | decide) | exact ai_lit (by assumption) (by decide) (by decide) (by decide)) | (refine ok_bR (by assumption) ?_))
      rw [hc', nI_s (by decide)]
      have hF2 : Fk (sR m) h (uI h' m 19 (nI (16 - 1))) := hF.trans (fk_uI (Or.inl ⟨rfl, rfl⟩))
      refine ok_mono (ok_m_rem48 (c := 15) (hm0.fk hF2) (v.fk hF2 (fun k e => by rcases e with e | e <;> omega)) hI_uIs (by decide)) (fun _ h2 hh => ?_)
      obtain ⟨g1, g2, g3⟩ := hh
      have hF3 := hF2.trans g1
      refine ⟨hF3, by omega, p2, ?_, ?_, fun i3 hi3 k hk => ?_, fun i3 hi3 k hk => ?_⟩
      · rw [g2, e]
        rfl
      · rw [(hF3.2.2.2.2 m 20 (fun e => by rcases e with e | e <;> omega)).1]
        exact p4
      · rw [g3]
        cases i3 with
        | zero =>
          rw [if_pos (by omega), show 8 * (min 16 (c + 1) - 1 - 0) + k - 8 * 15 = k by omega]
          exact (v.fk hF2 (fun k e => by rcases e with e | e <;> omega)).2 k hk
        | succ i3 =>
          rw [if_neg (by omega), hI_uIa (by omega), hp, if_pos (by omega)]
          have g := p5 i3 (by omega) k hk
          rw [show 8 * (min 16 (c + 1) - 1 - (i3 + 1)) + k + 8 = 8 * (c - 1 - i3) + k by omega]
          exact g
      · rw [(hF3.2.2.2.2 (m + 5) _ (fun e => by rcases e with e | e <;> omega)).1]
        exact p6 i3 hi3 k hk
    · have e8 : nI i + 8 = nI (i + 8) := by
        show nI i + nI 8 = _
        rw [nI_add]
      rw [e8]
      (try unfold QB); (try unfold QM); repeat (first | (with_reducible refine ok_lt ?_) | ((with_reducible refine ok_gd ?_ ?_); first | assumption | exact zb0 | exact zb1 | ((with_reducible apply ai_of) <;> first | assumption | omega | decide) | exact ai_lit (by assumption) (by decide) (by decide) (by decide)) | (refine ok_bR (by assumption) ?_))
      (try simp (disch := omega) only [nI_clamp, cl0, cl1, cl2, cl3, cl4, cl5, cl6, cl7, cl8])
      refine kk _ _ hl ⟨by rw [nI_1], hF.trans (fk_uI (Or.inr rfl)), by rw [hI_uIa (by omega)]; exact hc', fun p => ?_⟩
      have e9 : hI h' (m + 4) (i + 8) = hI h (m + 4) (i + 8) := by
        rw [hp]
        exact if_neg (by omega)
      rw [hI_uI, e9]
      by_cases e3 : p = i
      · rw [if_pos ⟨rfl, e3⟩, if_pos (by omega), e3]
      · rw [if_neg (fun g => e3 g.2), hp p]
        by_cases e4 : p < i
        · rw [if_pos e4, if_pos (by omega)]
        · rw [if_neg e4, if_neg (by omega)]
  · refine ok_mono (ok_m_rem48 (c := c) hm0 v p3 (by omega)) (fun _ h2 hh => ?_)
    obtain ⟨g1, g2, g3⟩ := hh
    refine ⟨g1, by omega, p2, ?_, ?_, fun i3 hi3 k hk => ?_, fun i3 hi3 k hk => ?_⟩
    · rw [g2, Nat.min_eq_right (by omega)]
    · rw [(g1.2.2.2.2 m 20 (fun e => by rcases e with e | e <;> omega)).1]
      exact p4
    · rw [g3]
      cases i3 with
      | zero =>
        rw [if_pos (by omega), show 8 * (min 16 (c + 1) - 1 - 0) + k - 8 * c = k by omega]
        exact v.2 k hk
      | succ i3 =>
        rw [if_neg (by omega), show 8 * (min 16 (c + 1) - 1 - (i3 + 1)) + k = 8 * (c - 1 - i3) + k by omega]
        exact p5 i3 (by omega) k hk
    · rw [(g1.2.2.2.2 (m + 5) _ (fun e => by rcases e with e | e <;> omega)).1]
      exact p6 i3 hi3 k hk
end MP
