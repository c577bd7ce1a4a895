/-! lineWorth, lineAt, inTime: both sides -/
theorem take_s {α : Type} (l : List α) (d : α) {i : Nat} (h : i < l.length) : l.take (i + 1) = l.take i ++ [l.getD i d] := by
  rw [List.take_add_one]
  congr 1
  simp [List.getD, List.getElem?_eq_getElem h]
theorem getD_mem {l : List Nat} {j : Nat} (h : j < l.length) : l.getD j 0 ∈ l := by
  rw [List.getD, List.getElem?_eq_getElem h]
  exact List.getElem_mem h
def evF (D : DD) (V : Nat → Nat) (o : Nat → Nat) : Nat → Nat × Nat × Int32
  | 0 => (0, 0, 0)
  | i + 1 => estN D V (evF D V o i) (o i)
theorem evF_take {D : DD} {V : Nat → Nat} (p : List Nat) (i : Nat) (h : i ≤ p.length) : evN D V (p.take i) = evF D V (fun j => p.getD j 0) i := by
  induction i with
  | zero => rfl
  | succ i ih =>
    rw [take_s p 0 (by omega), ev_app, ih (by omega)]
    rfl
theorem evF_all {D : DD} {V : Nat → Nat} (p : List Nat) : evN D V p = evF D V (fun j => p.getD j 0) p.length := by
  rw [← evF_take p p.length (Nat.le_refl _), List.take_length]
theorem bs_pos {D : DD} {V : Nat → Nat} (l : List (List Nat)) : ∀ b : BS, (1 ≤ b.1 ∨ 0 < l.length) → 1 ≤ (l.foldl (bsN D V) b).1 := by
  induction l with
  | nil =>
    intro b h
    rcases h with h | h
    · exact h
    · exact absurd h (Nat.lt_irrefl _)
  | cons p l ih =>
    intro b _
    refine ih (bsN D V b p) (Or.inl ?_)
    unfold bsN
    by_cases q : b.1 ≤ (evN D V p).2.1
    · rw [if_pos q]
      show 1 ≤ (evN D V p).2.1 + 1
      omega
    · rw [if_neg q]
      omega
theorem bs_le {D : DD} {V : Nat → Nat} (W : Wf D) (l : List (List Nat)) : ∀ b : BS, b.1 ≤ 1000 → (∀ p, p ∈ l → p.length ≤ 4 ∧ ∀ k, k ∈ p → k < dN D) → (l.foldl (bsN D V) b).1 ≤ 1000 := by
  induction l with
  | nil => intro b h _; exact h
  | cons p l ih =>
    intro b h hl
    refine ih (bsN D V b p) ?_ (fun q hq => hl q (by simp [hq]))
    have hp := hl p (by simp)
    have hev := ev_le (V := V) W p hp.2
    unfold bsN
    split
    · show (evN D V p).2.1 + 1 ≤ 1000
      omega
    · exact h
def bF (D : DD) (V : Nat → Nat) : BS := (PLn (dN D)).foldl (bsN D V) (0, 0, [])
section LN
variable {h : Hp} {m q : Nat} {D : DD} {V : Nat → Nat} {o : Nat → Nat}
theorem e_m_timely (X : OX h m q D) (hO : ordB h m (dN D) o) (hol : ∀ i, i < dN D → o i < dN D) (hd : ∀ i, i < dN D → hI h (m + 9) i = oI (duN D V i)) : f_m_timely m h = some ((evF D V o (dN D)).2.2, h) := by
  obtain ⟨x1, x2, x3, rQ, W⟩ := id X
  have w3 := W.2.2.1
  obtain ⟨a0, ⟨a1, a2, a3, a4, a5, a6, a7, a8, a9, -⟩, s1, s2, s3, s4, s5, s6, s7, s8, s9, -⟩ := id x1
  obtain ⟨⟨b1, b2, b3, b4, b5, b6, b7, b8, b9, b10, b11⟩, ⟨c0, c1, c2, c3, c4, c5, c6, c7, c8⟩, qW, qX, qE, qK, qS⟩ := id rQ; have d0 := b2 0 (by decide); have d1 := b2 1 (by decide); have d2 := b2 2 (by decide); have d3 := b2 3 (by decide); have d4 := b2 4 (by decide); have d5 := b2 5 (by decide); have d6 := b2 6 (by decide); have d7 := b2 7 (by decide); have d8 := b2 8 (by decide); have d9 := b2 9 (by decide); have d10 := b2 10 (by decide); have d11 := b2 11 (by decide); have d12 := b2 12 (by decide); have d13 := b2 13 (by decide); have d14 := b2 14 (by decide); have d15 := b2 15 (by decide); have d16 := b2 16 (by decide); have e0 := b3 0 (by decide); have e1 := b3 1 (by decide); have e2 := b3 2 (by decide); have e3 := b3 3 (by decide); have f0 := b6 0 (by decide); have f1 := b6 1 (by decide); have f2 := b6 2 (by decide); have f3 := b6 3 (by decide); have f4 := b6 4 (by decide); have f5 := b6 5 (by decide)
  have hle : ∀ i, i ≤ dN D → (evF D V o i).1 ≤ 99 * i := by
    intro i
    induction i with
    | zero => intro _; exact Nat.le_refl _
    | succ i ih =>
      intro hi
      have ih := ih (by omega)
      have hk := W.2.2.2.2.2.2.2.2.2.2.1 (o i) (hol i (by omega))
      show (estN D V (evF D V o i) (o i)).1 ≤ _
      unfold estN
      split
      · show (evF D V o i).1 + dTk D (o i) ≤ _
        omega
      · show (evF D V o i).1 + dTk D (o i) ≤ _
        omega
  refine ok_eq ?_
  unfold f_m_timely
  refine ok_lt (ok_lt (ok_lt (ok_up (dN D) (fun i st h' => st = (m, nI (evF D V o i).1, (evF D V o i).2.2, nI i) ∧ h' = h) ?_ FU 0 _ _ (Nat.zero_le _) ⟨rfl, rfl⟩ (by show _ < 10000; omega))))
  intro k i st h' hi hI' kk
  obtain ⟨rfl, rfl⟩ := hI'
  show Ok (b_m_timely_6 k m (nI (evF D V o i).1) (evF D V o i).2.2 (nI i) h') _
  unfold b_m_timely_6 b_m_timely_77 b_m_timely_78
  (try unfold QB); (try unfold QM); repeat (first | (with_reducible refine ok_lt ?_) | ((with_reducible refine ok_gd ?_ ?_); first | assumption | exact zb0 | exact zb1 | ((with_reducible apply ai_of) <;> first | assumption | omega | decide) | exact ai_lit (by assumption) (by decide) (by decide) (by decide)) | (refine ok_bR (by assumption) ?_))
  rw [c5]
  refine ok_it hi (by omega) (fun e => ok_ret ⟨by rw [e], rfl⟩) (fun hl => ?_)
  have hoi := hol i hl
  have hi4 : i < 4 := by omega
  have ho4 : o i < 4 := by omega
  have hlei := hle i hi
  have hTk := W.2.2.2.2.2.2.2.2.2.2.1 (o i) hoi
  (try unfold QB); (try unfold QM); repeat (first | (with_reducible refine ok_lt ?_) | ((with_reducible refine ok_gd ?_ ?_); first | assumption | exact zb0 | exact zb1 | ((with_reducible apply ai_of) <;> first | assumption | omega | decide) | exact ai_lit (by assumption) (by decide) (by decide) (by decide)) | (refine ok_bR (by assumption) ?_))
  (try simp (disch := omega) only [nI_clamp, cl0, cl1, cl2, cl3, cl4, cl5, cl6, cl7, cl8])
  rw [hO i hl]
  (try unfold QB); (try unfold QM); repeat (first | (with_reducible refine ok_lt ?_) | ((with_reducible refine ok_gd ?_ ?_); first | assumption | exact zb0 | exact zb1 | ((with_reducible apply ai_of) <;> first | assumption | omega | decide) | exact ai_lit (by assumption) (by decide) (by decide) (by decide)) | (refine ok_bR (by assumption) ?_))
  (try simp (disch := omega) only [nI_clamp, cl0, cl1, cl2, cl3, cl4, cl5, cl6, cl7, cl8])
  have g9 : hI h' (q + 1 + 9) (o i) = nI (dTk D (o i)) := (qK (o i) hoi).1
  rw [g9, nI_add, hO i hl]
  (try unfold QB); (try unfold QM); repeat (first | (with_reducible refine ok_lt ?_) | ((with_reducible refine ok_gd ?_ ?_); first | assumption | exact zb0 | exact zb1 | ((with_reducible apply ai_of) <;> first | assumption | omega | decide) | exact ai_lit (by assumption) (by decide) (by decide) (by decide)) | (refine ok_bR (by assumption) ?_))
  (try simp (disch := omega) only [nI_clamp, cl0, cl1, cl2, cl3, cl4, cl5, cl6, cl7, cl8])
  rw [hd (o i) hoi]
  have hs : evF D V o (i + 1) = estN D V (evF D V o i) (o i) := rfl
  have hg : goodN D V (o i) ((evF D V o i).1 + dTk D (o i)) = match duN D V (o i) with
    | none => false
    | some n => decide ((evF D V o i).1 + dTk D (o i) ≤ n) := rfl
  have bad : goodN D V (o i) ((evF D V o i).1 + dTk D (o i)) = false → estN D V (evF D V o i) (o i) = ((evF D V o i).1 + dTk D (o i), (evF D V o i).2.1, (evF D V o i).2.2) := fun g => by
    unfold estN
    rw [g]
    rfl
  have god : goodN D V (o i) ((evF D V o i).1 + dTk D (o i)) = true → estN D V (evF D V o i) (o i) = ((evF D V o i).1 + dTk D (o i), (evF D V o i).2.1 + dWo D (o i), (evF D V o i).2.2 ||| ((1 : Int32) <<< (nI (o i) &&& 31))) := fun g => by
    unfold estN
    rw [g]
    rfl
  cases hdu : duN D V (o i) with
  | none =>
    rw [hdu] at hg
    refine ok_t rfl (ok_lt (kk _ _ hl ⟨?_, rfl⟩))
    rw [hs, bad hg, nI_1, Int32.or_zero]
  | some dn =>
    rw [hdu] at hg
    have hdn := du_lt hdu
    have hg : goodN D V (o i) ((evF D V o i).1 + dTk D (o i)) = decide ((evF D V o i).1 + dTk D (o i) ≤ dn) := hg
    refine ok_f (oI_ne (by omega)) ?_
    (try unfold QB); (try unfold QM); repeat (first | (with_reducible refine ok_lt ?_) | ((with_reducible refine ok_gd ?_ ?_); first | assumption | exact zb0 | exact zb1 | ((with_reducible apply ai_of) <;> first | assumption | omega | decide) | exact ai_lit (by assumption) (by decide) (by decide) (by decide)) | (refine ok_bR (by assumption) ?_))
    (try simp (disch := omega) only [nI_clamp, cl0, cl1, cl2, cl3, cl4, cl5, cl6, cl7, cl8])
    rw [hO i hl]
    (try unfold QB); (try unfold QM); repeat (first | (with_reducible refine ok_lt ?_) | ((with_reducible refine ok_gd ?_ ?_); first | assumption | exact zb0 | exact zb1 | ((with_reducible apply ai_of) <;> first | assumption | omega | decide) | exact ai_lit (by assumption) (by decide) (by decide) (by decide)) | (refine ok_bR (by assumption) ?_))
    (try simp (disch := omega) only [nI_clamp, cl0, cl1, cl2, cl3, cl4, cl5, cl6, cl7, cl8])
    rw [hd (o i) hoi, hdu]
    show Ok (if nI dn < nI ((evF D V o i).1 + dTk D (o i)) then _ else _) _
    refine ok_ilt (by omega) (by omega) (fun c => ok_lt (kk _ _ hl ⟨?_, rfl⟩)) (fun c => ?_)
    · rw [decide_eq_false (by omega)] at hg
      rw [hs, bad hg, nI_1, Int32.or_zero]
    · rw [decide_eq_true c] at hg
      (try unfold QB); (try unfold QM); repeat (first | (with_reducible refine ok_lt ?_) | ((with_reducible refine ok_gd ?_ ?_); first | assumption | exact zb0 | exact zb1 | ((with_reducible apply ai_of) <;> first | assumption | omega | decide) | exact ai_lit (by assumption) (by decide) (by decide) (by decide)) | (refine ok_bR (by assumption) ?_))
      (try simp (disch := omega) only [nI_clamp, cl0, cl1, cl2, cl3, cl4, cl5, cl6, cl7, cl8])
      rw [hO i hl]
      refine kk _ _ hl ⟨?_, rfl⟩
      rw [hs, god hg, nI_1]
theorem e_m_worthOf (X : OX h m q D) (s : Int32) : f_m_worthOf m s h = some (nI (sumW D s (dN D)), h) := by
  obtain ⟨x1, x2, x3, rQ, W⟩ := id X
  have w3 := W.2.2.1
  have a0 := x1.1
  obtain ⟨⟨b1, b2, b3, b4, b5, b6, b7, b8, b9, b10, b11⟩, ⟨c0, c1, c2, c3, c4, c5, c6, c7, c8⟩, qW, qX, qE, qK, qS⟩ := id rQ; have d0 := b2 0 (by decide); have d1 := b2 1 (by decide); have d2 := b2 2 (by decide); have d3 := b2 3 (by decide); have d4 := b2 4 (by decide); have d5 := b2 5 (by decide); have d6 := b2 6 (by decide); have d7 := b2 7 (by decide); have d8 := b2 8 (by decide); have d9 := b2 9 (by decide); have d10 := b2 10 (by decide); have d11 := b2 11 (by decide); have d12 := b2 12 (by decide); have d13 := b2 13 (by decide); have d14 := b2 14 (by decide); have d15 := b2 15 (by decide); have d16 := b2 16 (by decide); have e0 := b3 0 (by decide); have e1 := b3 1 (by decide); have e2 := b3 2 (by decide); have e3 := b3 3 (by decide); have f0 := b6 0 (by decide); have f1 := b6 1 (by decide); have f2 := b6 2 (by decide); have f3 := b6 3 (by decide); have f4 := b6 4 (by decide); have f5 := b6 5 (by decide)
  refine ok_eq ?_
  unfold f_m_worthOf
  refine ok_lt (ok_lt (ok_up (dN D) (fun i st h' => st = (m, s, nI (sumW D s i), nI i) ∧ h' = h) ?_ FU 0 _ _ (Nat.zero_le _) ⟨rfl, rfl⟩ (by show _ < 10000; omega)))
  intro k i st h' hi hI' kk
  obtain ⟨rfl, rfl⟩ := hI'
  show Ok (b_m_worthOf_4 k m s (nI (sumW D s i)) (nI i) h') _
  unfold b_m_worthOf_4 b_m_worthOf_37
  (try unfold QB); (try unfold QM); repeat (first | (with_reducible refine ok_lt ?_) | ((with_reducible refine ok_gd ?_ ?_); first | assumption | exact zb0 | exact zb1 | ((with_reducible apply ai_of) <;> first | assumption | omega | decide) | exact ai_lit (by assumption) (by decide) (by decide) (by decide)) | (refine ok_bR (by assumption) ?_))
  rw [c5]
  refine ok_it hi (by omega) (fun e => ok_ret ⟨by rw [e], rfl⟩) (fun hl => ?_)
  have hs : sumW D s (i + 1) = sumW D s i + (if bt s i = true then dWo D i else 0) := rfl
  have hi4 : i < 4 := by omega
  refine ok_bde (e_m_bit s i) (ok_ib (fun c => ok_lt (kk _ _ hl ⟨?_, rfl⟩)) (fun c => ?_))
  · rw [hs, c, nI_1, Int32.add_zero]
    rfl
  · (try unfold QB); (try unfold QM); repeat (first | (with_reducible refine ok_lt ?_) | ((with_reducible refine ok_gd ?_ ?_); first | assumption | exact zb0 | exact zb1 | ((with_reducible apply ai_of) <;> first | assumption | omega | decide) | exact ai_lit (by assumption) (by decide) (by decide) (by decide)) | (refine ok_bR (by assumption) ?_))
    (try simp (disch := omega) only [nI_clamp, cl0, cl1, cl2, cl3, cl4, cl5, cl6, cl7, cl8])
    have g : hI h' (q + 1 + 10) i = nI (dWo D i) := (qK i hl).2.1
    rw [g, nI_add, nI_1]
    refine kk _ _ hl ⟨?_, rfl⟩
    rw [hs, c]
    rfl
/-- what the lines write -/
def sLn (m a k : Nat) : Prop := sX m a k ∨ (a = m ∧ k = 27) ∨ (m + 7 ≤ a ∧ a ≤ m + 9)
def BRm (h : Hp) (m N : Nat) (b : BS) : Prop := b.1 ≤ 1000 ∧ (0 < b.1 → hI h m 27 = b.2.1 ∧ ∀ i, i < N → hI h (m + 8) i = nI (b.2.2.getD i 0))
set_option maxHeartbeats 1000000 in
theorem ok_m_lines (X : DX h m q D V) : Ok (f_m_lines m h) (fun y h' => y = xI (bF D V).1 ∧ Fk (sLn m) h h' ∧ BRm h' m (dN D) (bF D V)) := by
  have W := X.2.2.2.2.1
  have w3 := W.2.2.1
  have Xk : ∀ {h' : Hp}, Fk (sLn m) h h' → DX h' m q D V := fun F => by
    obtain ⟨x1, x2, x3, x4, x5, x6, x7⟩ := X
    exact ⟨x1.fk F, by rw [F.2.2.2.1]; exact x2, x3, x4.fk F (fun i k hi e => by unfold sLn sX at e; omega), x5, x6.fk F (fun k e => by unfold sLn sX at e; omega), x7⟩
  obtain ⟨p0, p24, pid⟩ := PL_0 (dN D) (by omega)
  unfold f_m_lines
  refine ok_lt (ok_lt ?_)
  refine ok_up (dN D) (fun i st h' => st = (m, -1, nI i) ∧ Fk (sLn m) h h' ∧ ∀ j, j < i → hI h' (m + 7) j = nI j ∧ hI h' (m + 9) j = oI (duN D V j)) ?_ FU 0 _ _ (Nat.zero_le _) ⟨rfl, Fk.rf, fun j hj => absurd hj (Nat.not_lt_zero _)⟩ (by show _ < 10000; omega)
  intro k i st h' hi hI' kk
  obtain ⟨rfl, hF, hp⟩ := hI'
  have X' := Xk hF
  obtain ⟨x1, x2, x3, rQ, -, x6, x7⟩ := id X'
  obtain ⟨a0, ⟨a1, a2, a3, a4, a5, a6, a7, a8, a9, -⟩, s1, s2, s3, s4, s5, s6, s7, s8, s9, -⟩ := id x1
  show Ok (b_m_lines_4 k m (-1) (nI i) h') _
  unfold b_m_lines_4
  obtain ⟨⟨b1, b2, b3, b4, b5, b6, b7, b8, b9, b10, b11⟩, ⟨c0, c1, c2, c3, c4, c5, c6, c7, c8⟩, qW, qX, qE, qK, qS⟩ := id rQ; have d0 := b2 0 (by decide); have d1 := b2 1 (by decide); have d2 := b2 2 (by decide); have d3 := b2 3 (by decide); have d4 := b2 4 (by decide); have d5 := b2 5 (by decide); have d6 := b2 6 (by decide); have d7 := b2 7 (by decide); have d8 := b2 8 (by decide); have d9 := b2 9 (by decide); have d10 := b2 10 (by decide); have d11 := b2 11 (by decide); have d12 := b2 12 (by decide); have d13 := b2 13 (by decide); have d14 := b2 14 (by decide); have d15 := b2 15 (by decide); have d16 := b2 16 (by decide); have e0 := b3 0 (by decide); have e1 := b3 1 (by decide); have e2 := b3 2 (by decide); have e3 := b3 3 (by decide); have f0 := b6 0 (by decide); have f1 := b6 1 (by decide); have f2 := b6 2 (by decide); have f3 := b6 3 (by decide); have f4 := b6 4 (by decide); have f5 := b6 5 (by decide)
  (try unfold QB); (try unfold QM); repeat (first | (with_reducible refine ok_lt ?_) | ((with_reducible refine ok_gd ?_ ?_); first | assumption | exact zb0 | exact zb1 | ((with_reducible apply ai_of) <;> first | assumption | omega | decide) | exact ai_lit (by assumption) (by decide) (by decide) (by decide)) | (refine ok_bR (by assumption) ?_))
  rw [c5]
  refine ok_it hi (by omega) (fun e => ?_) (fun hl => ?_)
  · subst e
    refine ok_lt ?_
    clear b1 b2 b3 b4 b5 b6 b7 b8 b9 b10 b11 c0 c1 c2 c3 c4 c5 c6 c7 c8 qW qX qE qK qS d0 d1 d2 d3 d4 d5 d6 d7 d8 d9 d10 d11 d12 d13 d14 d15 d16 e0 e1 e2 e3 f0 f1 f2 f3 f4 f5
    clear x1 x2 x3 rQ x6 x7 a0 a1 a2 a3 a4 a5 a6 a7 a8 a9 s1 s2 s3 s4 s5 s6 s7 s8 s9
    refine ok_dn (fun μ st h2 => Fk (sLn m) h h2 ∧ (∀ j, j < dN D → hI h2 (m + 9) j = oI (duN D V j)) ∧ ∃ b, BRm h2 m (dN D) b ∧ ((∃ t, st = (m, xI b.1, 1) ∧ μ = 30 - t ∧ t < (PLn (dN D)).length ∧ ordB h2 m (dN D) (gL (dN D) t) ∧ b = ((PLn (dN D)).take t).foldl (bsN D V) (0, 0, [])) ∨ (st = (m, xI b.1, 0) ∧ b = bF D V))) ?_ FU 30 _ _ ⟨hF, fun j hj => (hp j hj).2, (0, 0, []), ⟨by decide, fun g => absurd g (Nat.lt_irrefl _)⟩, Or.inl ⟨0, rfl, rfl, p0, fun j hj => by rw [pid j hj]; exact (hp j hj).1, rfl⟩⟩ (by show _ < 10000; decide)
    intro k2 μ st h2 hI2 kc
    obtain ⟨hF2, hd2, b, hB, hst⟩ := hI2
    rcases hst with ⟨t, rfl, hμ, ht, hO, hb⟩ | ⟨rfl, hb⟩
    · show Ok (b_m_lines_58 k2 m (xI b.1) 1 h2) _
      unfold b_m_lines_58
      refine ok_f (by decide) ?_
      have X2 := Xk hF2
      have OX2 : OX h2 m q D := ⟨X2.1, X2.2.1, X2.2.2.1, X2.2.2.2.1, W⟩
      have hmem : (PLn (dN D)).getD t [] ∈ PLn (dN D) := by
        rw [List.getD, List.getElem?_eq_getElem ht]
        exact List.getElem_mem ht
      obtain ⟨pl, pn, pk⟩ := PL_ok (dN D) (by omega) _ hmem
      have hol : ∀ j, j < dN D → gL (dN D) t j < dN D := fun j hj => by
        refine pk _ ?_
        show ((PLn (dN D)).getD t []).getD j 0 ∈ _
        exact getD_mem (by rw [pl]; exact hj)
      have hev : evF D V (gL (dN D) t) (dN D) = evN D V ((PLn (dN D)).getD t []) := by
        rw [evF_all ((PLn (dN D)).getD t []), pl]
        rfl
      have hwl := ev_le (V := V) W ((PLn (dN D)).getD t []) pk
      refine ok_gd X2.1.1 (ok_bde (e_m_timely OX2 hO hol hd2) (ok_gd X2.1.1 (ok_bde (e_m_worthOf OX2 _) ?_)))
      rw [hev, ev_ok (by omega) _ pk pn]
      have hbn : ((PLn (dN D)).take (t + 1)).foldl (bsN D V) (0, 0, []) = bsN D V b ((PLn (dN D)).getD t []) := by
        rw [take_s (PLn (dN D)) [] ht, List.foldl_append, hb]
        rfl
      have hb1 := hB.1
      have hcmp : nI (evN D V ((PLn (dN D)).getD t [])).2.1 ≤ xI b.1 ↔ ¬ b.1 ≤ (evN D V ((PLn (dN D)).getD t [])).2.1 := by
        cases hbb : b.1 with
        | zero =>
          rw [xI_0]
          refine ⟨fun g => absurd (Int32.lt_of_lt_of_le (show (-1 : Int32) < 0 by decide) (nI_pos' (n := (evN D V ((PLn (dN D)).getD t [])).2.1) (by omega))) (Int32.not_lt.mpr g), fun g => by omega⟩
        | succ b1 =>
          rw [xI_s, nI_leI (by omega) (by omega)]
          omega
      have l116 : ∀ (h3 : Hp) (b' : BS), Fk (sLn m) h h3 → (∀ j, j < dN D → hI h3 (m + 9) j = oI (duN D V j)) → ordB h3 m (dN D) (gL (dN D) t) → BRm h3 m (dN D) b' → b' = bsN D V b ((PLn (dN D)).getD t []) → Ok (b_m_lines_116 k2 m (xI b'.1) h3) (fun y h' => y = xI (bF D V).1 ∧ Fk (sLn m) h h' ∧ BRm h' m (dN D) (bF D V)) := by
        intro h3 b' hF3 hd3 hO3 hB3 hb'
        unfold b_m_lines_116
        have X3 := Xk hF3
        have OX3 : OX h3 m q D := ⟨X3.1, X3.2.1, X3.2.2.1, X3.2.2.2.1, W⟩
        refine ok_gd X3.1.1 (ok_bd (ok_mono (ok_m_nextOrder OX3 rfl hO3 (fun j hj => by have := hol j hj; omega)) ?_))
        intro y h4 hx4
        obtain ⟨hF4, hy⟩ := hx4
        have hF5 : Fk (sLn m) h h4 := hF3.trans (hF4.mono (fun a k e => by unfold sMo at e; unfold sLn; omega))
        have hd4 : ∀ j, j < dN D → hI h4 (m + 9) j = oI (duN D V j) := fun j hj => by
          rw [(hF4.2.2.2.2 _ _ (fun e => by unfold sMo at e; omega)).1]
          exact hd3 j hj
        have hB4 : BRm h4 m (dN D) b' := by
          refine ⟨hB3.1, fun g => ⟨?_, fun j hj => ?_⟩⟩
          · rw [(hF4.2.2.2.2 _ _ (fun e => by unfold sMo at e; omega)).1]
            exact (hB3.2 g).1
          · rw [(hF4.2.2.2.2 _ _ (fun e => by unfold sMo at e; omega)).1]
            exact (hB3.2 g).2 j hj
        have hok := okN_all (dN D) (by omega) t ht
        unfold okN at hok
        rcases hy with ⟨rfl, hn⟩ | ⟨rfl, o', hn, hO4⟩
        · rw [hn] at hok
          have hlast : t + 1 = (PLn (dN D)).length := of_decide_eq_true hok
          refine kc 0 _ _ (by omega) ⟨hF5, hd4, b', hB4, Or.inr ⟨rfl, ?_⟩⟩
          rw [hb', ← hbn, hlast, List.take_length]
          rfl
        · rw [hn] at hok
          have hok : (decide (t + 1 < (PLn (dN D)).length) && (decide (dN D ≤ 0 ∨ o' 0 = gL (dN D) (t + 1) 0) && decide (dN D ≤ 1 ∨ o' 1 = gL (dN D) (t + 1) 1) && decide (dN D ≤ 2 ∨ o' 2 = gL (dN D) (t + 1) 2) && decide (dN D ≤ 3 ∨ o' 3 = gL (dN D) (t + 1) 3))) = true := hok
          simp only [Bool.and_eq_true, decide_eq_true_eq] at hok
          obtain ⟨g0, ⟨⟨g1, g2⟩, g3⟩, g4⟩ := hok
          refine kc (30 - (t + 1)) _ _ (by omega) ⟨hF5, hd4, b', hB4, Or.inl ⟨t + 1, rfl, rfl, g0, fun j hj => ?_, by rw [hb', ← hbn]⟩⟩
          rw [hO4 j hj]
          have e : j = 0 ∨ j = 1 ∨ j = 2 ∨ j = 3 := by omega
          rcases e with rfl | rfl | rfl | rfl
          · rw [g1.resolve_left (by omega)]
          · rw [g2.resolve_left (by omega)]
          · rw [g3.resolve_left (by omega)]
          · rw [g4.resolve_left (by omega)]
      refine ok_ite (fun c => l116 h2 b hF2 hd2 hO hB ?_) (fun c => ?_)
      · unfold bsN
        rw [if_neg (hcmp.mp c)]
      · have c2 : b.1 ≤ (evN D V ((PLn (dN D)).getD t [])).2.1 := Classical.byContradiction (fun g => c (hcmp.mpr g))
        refine ok_gd X2.1.1 (ok_bde (e_m_worthOf OX2 _) (ok_gd X2.1.1 (ok_lt (ok_lt ?_))))
        rw [ev_ok (by omega) _ pk pn]
        generalize hH : uI h2 m 27 (evN D V ((PLn (dN D)).getD t [])).2.2 = H
        have hFH : Fk (sLn m) h H := by
          rw [← hH]
          exact hF2.trans (fk_uI (Or.inr (Or.inl ⟨rfl, rfl⟩)))
        have h27 : hI H m 27 = (evN D V ((PLn (dN D)).getD t [])).2.2 := by rw [← hH, hI_uIs]
        have hOH : ordB H m (dN D) (gL (dN D) t) := fun j hj => by rw [← hH, hI_uIa (by omega)]; exact hO j hj
        have hdH : ∀ j, j < dN D → hI H (m + 9) j = oI (duN D V j) := fun j hj => by rw [← hH, hI_uIa (by omega)]; exact hd2 j hj
        refine ok_up 4 (fun a st h3 => st = (m, nI (evN D V ((PLn (dN D)).getD t [])).2.1, nI a) ∧ Fk (fun a k => a = m + 8) H h3 ∧ ∀ j, j < a → j < dN D → hI h3 (m + 8) j = nI (gL (dN D) t j)) ?_ FU 0 _ _ (Nat.zero_le _) ⟨rfl, Fk.rf, fun j hj => absurd hj (Nat.not_lt_zero _)⟩ (by show _ < 10000; decide)
        intro k3 a st h3 ha hI3 kk3
        obtain ⟨rfl, hF3, hc3⟩ := hI3
        have hF4 : Fk (sLn m) h h3 := hFH.trans (hF3.mono (fun a k e => by unfold sLn; omega))
        have X3 := Xk hF4
        obtain ⟨a0, ⟨a1, a2, a3, a4, a5, a6, a7, a8, a9, -⟩, s1, s2, s3, s4, s5, s6, s7, s8, s9, -⟩ := id X3.1
        have hO3 : ordB h3 m (dN D) (gL (dN D) t) := fun j hj => by rw [(hF3.2.2.2.2 _ _ (by omega)).1]; exact hOH j hj
        show Ok (b_m_lines_90 k2 k3 m (nI (evN D V ((PLn (dN D)).getD t [])).2.1) (nI a) h3) _
        unfold b_m_lines_90
        refine ok_it (a := 4) ha (by decide) (fun e => ?_) (fun hl => ?_)
        · refine l116 h3 ((evN D V ((PLn (dN D)).getD t [])).2.1 + 1, (evN D V ((PLn (dN D)).getD t [])).2.2, (PLn (dN D)).getD t []) hF4 (fun j hj => by rw [(hF3.2.2.2.2 _ _ (by omega)).1]; exact hdH j hj) hO3 ⟨by show (evN D V ((PLn (dN D)).getD t [])).2.1 + 1 ≤ 1000; omega, fun _ => ⟨?_, fun j hj => hc3 j (by omega) hj⟩⟩ ?_
          · rw [(hF3.2.2.2.2 _ _ (by omega)).1]
            exact h27
          · unfold bsN
            rw [if_pos c2]
        · (try unfold QB); (try unfold QM); repeat (first | (with_reducible refine ok_lt ?_) | ((with_reducible refine ok_gd ?_ ?_); first | assumption | exact zb0 | exact zb1 | ((with_reducible apply ai_of) <;> first | assumption | omega | decide) | exact ai_lit (by assumption) (by decide) (by decide) (by decide)) | (refine ok_bR (by assumption) ?_))
          (try simp (disch := omega) only [nI_clamp, cl0, cl1, cl2, cl3, cl4, cl5, cl6, cl7, cl8])
          refine kk3 _ _ hl ⟨by rw [nI_1], hF3.trans (fk_uI rfl), fun j hj hjN => ?_⟩
          rw [hI_uI]
          by_cases e : j = a
          · rw [if_pos ⟨rfl, e⟩, e]
            exact hO3 a (by omega)
          · rw [if_neg (fun g => e g.2)]
            exact hc3 j (by omega) hjN
    · show Ok (b_m_lines_58 k2 m (xI b.1) 0 h2) _
      unfold b_m_lines_58
      exact ok_t rfl (ok_ret ⟨by rw [hb], hF2, by rw [← hb]; exact hB⟩)
  · have hi4 : i < 4 := by omega
    (try unfold QB); (try unfold QM); repeat (first | (with_reducible refine ok_lt ?_) | ((with_reducible refine ok_gd ?_ ?_); first | assumption | exact zb0 | exact zb1 | ((with_reducible apply ai_of) <;> first | assumption | omega | decide) | exact ai_lit (by assumption) (by decide) (by decide) (by decide)) | (refine ok_bR (by assumption) ?_))
    (try simp (disch := omega) only [nI_clamp, cl0, cl1, cl2, cl3, cl4, cl5, cl6, cl7, cl8])
    have hF2 : Fk (sLn m) h (uI h' (m + 7) i (nI i)) := hF.trans (fk_uI (Or.inr (Or.inr ⟨by omega, by omega⟩)))
    have X2 := Xk hF2
    have hTi := (W.2.2.2.2.2.2.2.2.2.2.1 i hl).2.2.2
    have g : hI (uI h' (m + 7) i (nI i)) (q + 1 + 11) i = nI (dTi D i) := by rw [hI_uIa (by omega)]; exact (qK i hl).2.2
    rw [g]
    refine ok_bd (ok_mono (ok_m_next1 X2 hTi) ?_)
    intro y h3 hx3
    obtain ⟨rfl, hF3⟩ := hx3
    have hF4 : Fk (sLn m) h h3 := hF2.trans (hF3.mono (fun a k e => Or.inl e))
    have z9 : hS h3 (m + 9) = some (.inr (0, 4)) := by rw [hF4.2.1]; exact X.1.2.2.2.2.2.2.2.2.2.2.1
    (try unfold QB); (try unfold QM); repeat (first | (with_reducible refine ok_lt ?_) | ((with_reducible refine ok_gd ?_ ?_); first | assumption | exact zb0 | exact zb1 | ((with_reducible apply ai_of) <;> first | assumption | omega | decide) | exact ai_lit (by assumption) (by decide) (by decide) (by decide)) | (refine ok_bR (by assumption) ?_))
    (try simp (disch := omega) only [nI_clamp, cl0, cl1, cl2, cl3, cl4, cl5, cl6, cl7, cl8])
    refine kk _ _ hl ⟨by rw [nI_1], hF4.trans (fk_uI (Or.inr (Or.inr ⟨by omega, by omega⟩))), fun j hj => ?_⟩
    rw [hI_uIa (by omega), (hF3.2.2.2.2 (m + 7) j (fun e => by unfold sX at e; omega)).1]
    by_cases e : j = i
    · rw [e, hI_uIs, hI_uIs]
      exact ⟨rfl, rfl⟩
    · rw [hI_uIk e, hI_uIk e, (hF3.2.2.2.2 (m + 9) j (fun e => by unfold sX at e; omega)).1, hI_uIa (by omega)]
      exact hp j (by omega)
end LN
