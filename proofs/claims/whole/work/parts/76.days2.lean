/-! feasts counted, the soonest, the widest gap: the class -/
theorem cnt_gap {P : Nat → Bool} {a b : Nat} (h : a ≤ b) (hn : ∀ e, a ≤ e → e < b → P e = false) : cntN P b = cntN P a := by
  induction b with
  | zero => rw [show a = 0 by omega]
  | succ b ih =>
    by_cases e : a = b + 1
    · rw [e]
    · show cntN P b + (if P b = true then 1 else 0) = _
      rw [ih (by omega) (fun e h1 h2 => hn e h1 (by omega)), hn b (by omega) (by omega)]
      rfl
theorem cnt_s {P : Nat → Bool} {n : Nat} (h : P n = true) : cntN P (n + 1) = cntN P n + 1 := by
  show cntN P n + (if P n = true then 1 else 0) = _
  rw [if_pos h]
theorem fd_cut {P : Nat → Bool} {k l : Nat} (h : l ≤ k) : fd P 1 l = match fd P 1 k with
    | some n => if n < l + 1 then some n else none
    | none => none := by
  rcases fd_cases P k 1 with ⟨h1, h2⟩ | ⟨n, h1, h2, h3, h4, h5⟩
  · rw [h1, fd_none l 1 (fun e g1 g2 => h2 e g1 (by omega))]
  · rw [h1]
    show _ = if n < l + 1 then some n else none
    by_cases q : n < l + 1
    · rw [if_pos q, fd_some l 1 n h2 (by omega) h4 h5]
    · rw [if_neg q, fd_none l 1 (fun e g1 g2 => h5 e g1 (by omega))]
/-- the soonest of n feasts: its number, and the day -/
def sN (Q : Nat → Option Nat) : Nat → Option Nat × Nat
  | 0 => (none, 5001)
  | f + 1 => match Q f with
    | some n => if n < (sN Q f).2 then (some f, n) else sN Q f
    | none => sN Q f
/-- the last day of a feast (0: none) and the widest gap (0: none) until day n -/
def gq (P : Nat → Bool) : Nat → Nat × Nat
  | 0 => (0, 0)
  | n + 1 => if P (n + 1) = true then (n + 1, if (gq P n).1 = 0 then (gq P n).2 else max (gq P n).2 (n + 1 - (gq P n).1)) else gq P n
def mI (a : Nat) : Int32 := if a = 0 then -2 else nI a
def xI' (a : Nat) : Int32 := if a = 0 then -1 else nI a
theorem gq_gap {P : Nat → Bool} {a b : Nat} (h : a ≤ b) (hn : ∀ e, a < e → e ≤ b → P e = false) : gq P b = gq P a := by
  induction b with
  | zero => rw [show a = 0 by omega]
  | succ b ih =>
    by_cases e : a = b + 1
    · rw [e]
    · show (if P (b + 1) = true then _ else gq P b) = _
      rw [if_neg (by rw [hn (b + 1) (by omega) (Nat.le_refl _)]; simp)]
      exact ih (by omega) (fun e h1 h2 => hn e h1 (by omega))
theorem gq_on {P : Nat → Bool} {n : Nat} (h : P (n + 1) = true) : gq P (n + 1) = (n + 1, if (gq P n).1 = 0 then (gq P n).2 else max (gq P n).2 (n + 1 - (gq P n).1)) := if_pos h
theorem e_maxm {h : Hp} {a b : Nat} (ha : a < 2 ^ 30) (h0 : 0 < b) (hb : b < 2 ^ 30) : f_Math_max (mI a) (nI b) h = some (mI (max a b), h) := by
  unfold mI
  by_cases q : a = 0
  · rw [if_pos q, if_neg (by omega), q, Nat.max_eq_right (Nat.zero_le _)]
    unfold f_Math_max
    rw [if_pos]
    exact Int32.lt_of_lt_of_le (by decide) (nI_pos' (by omega))
  · rw [if_neg q, if_neg (by omega)]
    exact e_max (by omega) (by omega)
section CD
variable {h : Hp} {c o r : Nat} {D : DD} {V : Nat → Nat} {F : Nat → Nat → Nat}
theorem ok_C_feastsUntil (X : CX h c o r D V F) {f n : Nat} (hf : f < dF D) (hn : n ≤ 5000) : Ok (f_C_feastsUntil c (nI f) (nI n) h) (fun y h' => h' = h ∧ y = nI (cntN (fun e => onW F D V f (e + 1)) n)) := by
  have l1 := X.1.1
  generalize hP : onW F D V f = P
  have ff : ∀ {a b : Nat}, a ≤ 5001 → b ≤ 5000 → Ok (f_C_feastFrom c (nI f) (nI a) (nI b) h) (fun y h' => h' = h ∧ y = oI (fd P a (b + 1 - a))) := fun ha hb => by
    rw [← hP]
    exact ok_C_feastFrom X hf ha hb
  have tr : ∀ a, a ≤ n → (fd P (a + 1) (n + 1 - (a + 1)) = none ∧ cntN (fun e => P (e + 1)) n = cntN (fun e => P (e + 1)) a) ∨ ∃ d, fd P (a + 1) (n + 1 - (a + 1)) = some d ∧ 1 ≤ d ∧ d ≤ n ∧ P d = true ∧ cntN (fun e => P (e + 1)) (d - 1) = cntN (fun e => P (e + 1)) a := by
    intro a ha
    rcases fd_cases P (n + 1 - (a + 1)) (a + 1) with ⟨h1, h2⟩ | ⟨d, h1, h2, h3, h4, h5⟩
    · exact Or.inl ⟨h1, cnt_gap ha (fun e g1 g2 => h2 (e + 1) (by omega) (by omega))⟩
    · exact Or.inr ⟨d, h1, by omega, by omega, h4, cnt_gap (by omega) (fun e g1 g2 => h5 (e + 1) (by omega) (by omega))⟩
  unfold f_C_feastsUntil
  (try unfold QB); (try unfold QM); repeat (first | (with_reducible refine ok_lt ?_) | ((with_reducible refine ok_gd ?_ ?_); first | assumption | exact zb0 | exact zb1 | ((with_reducible apply ai_of) <;> first | assumption | omega | decide) | exact ai_lit (by assumption) (by decide) (by decide) (by decide)) | (refine ok_bR (by assumption) ?_))
  refine ok_bd (ok_mono (ff (a := 1) (b := n) (by decide) hn) ?_)
  intro y h1 hx
  obtain ⟨rfl, rfl⟩ := hx
  (try unfold QB); (try unfold QM); repeat (first | (with_reducible refine ok_lt ?_) | ((with_reducible refine ok_gd ?_ ?_); first | assumption | exact zb0 | exact zb1 | ((with_reducible apply ai_of) <;> first | assumption | omega | decide) | exact ai_lit (by assumption) (by decide) (by decide) (by decide)) | (refine ok_bR (by assumption) ?_))
  refine ok_dn (fun μ st h' => h' = h1 ∧ ∃ i q, st = (c, nI f, nI n, nI i, oI q, nI i) ∧ μ = 6000 - i ∧ ((q = none ∧ i = cntN (fun e => P (e + 1)) n) ∨ ∃ d, q = some d ∧ 1 ≤ d ∧ d ≤ n ∧ P d = true ∧ i = cntN (fun e => P (e + 1)) (d - 1))) ?_ FU 6000 _ _ ⟨rfl, 0, _, rfl, rfl, ?_⟩ (by show _ < 10000; decide)
  · intro k μ st h' hI' kc
    obtain ⟨rfl, i, q, rfl, hμ, hq⟩ := hI'
    show Ok (b_C_feastsUntil_14 k c (nI f) (nI n) (nI i) (oI q) (nI i) h') _
    unfold b_C_feastsUntil_14
    rcases hq with ⟨hq1, hq2⟩ | ⟨d, hq1, hq2, hq3, hq4, hq5⟩
    · have hc := cnt_le (fun e => P (e + 1)) n
      rw [hq1]
      refine ok_ile (by omega) (by omega) (fun _ => ok_ret ⟨rfl, by rw [hq2]⟩) (fun _ => ok_t rfl (ok_ret ⟨rfl, by rw [hq2]⟩))
    · have hc := cnt_le (fun e => P (e + 1)) (d - 1)
      rw [hq1]
      refine ok_ile (by omega) (by omega) (fun g => by omega) (fun _ => ok_f (oI_ne (by omega)) ?_)
      (try unfold QB); (try unfold QM); repeat (first | (with_reducible refine ok_lt ?_) | ((with_reducible refine ok_gd ?_ ?_); first | assumption | exact zb0 | exact zb1 | ((with_reducible apply ai_of) <;> first | assumption | omega | decide) | exact ai_lit (by assumption) (by decide) (by decide) (by decide)) | (refine ok_bR (by assumption) ?_))
      show Ok (bd (f_C_feastFrom c (nI f) (nI d + 1) (nI n) h') _) _
      rw [nI_1]
      refine ok_bd (ok_mono (ff (a := d + 1) (b := n) (by omega) hn) ?_)
      intro y h2 hx
      obtain ⟨rfl, rfl⟩ := hx
      have hcs : cntN (fun e => P (e + 1)) d = i + 1 := by
        rw [hq5, show d = d - 1 + 1 by omega]
        exact cnt_s (by rw [show d - 1 + 1 = d by omega]; exact hq4)
      refine kc (6000 - (i + 1)) _ _ (by omega) ⟨rfl, i + 1, _, by rw [nI_1], rfl, ?_⟩
      rcases tr d hq3 with ⟨g1, g2⟩ | ⟨d2, g1, g2, g3, g4, g5⟩
      · exact Or.inl ⟨g1, by rw [g2, hcs]⟩
      · exact Or.inr ⟨d2, g1, g2, g3, g4, by rw [g5, hcs]⟩
  · rcases tr 0 (Nat.zero_le _) with ⟨g1, g2⟩ | ⟨d2, g1, g2, g3, g4, g5⟩
    · exact Or.inl ⟨g1, g2.symm⟩
    · exact Or.inr ⟨d2, g1, g2, g3, g4, g5.symm⟩
theorem ok_C_soonestFeast (X : CX h c o r D V F) : Ok (f_C_soonestFeast c h) (fun y h' => h' = h ∧ y = oI (sN (fun f => fd (onW F D V f) 1 5000) (dF D)).1) := by
  have w2 := X.2.2.2.2.2.2.1.2.1
  have l1 := X.1.1
  have h5 := X.2.1
  have rO := X.2.2.2.1
  have o1 := rO.1.1
  generalize hQ : (fun f => fd (onW F D V f) 1 5000) = Q
  have hb : ∀ i, (sN Q i).2 ≤ 5001 ∧ 1 ≤ (sN Q i).2 := by
    intro i
    induction i with
    | zero => exact ⟨Nat.le_refl 5001, by show 1 ≤ 5001; decide⟩
    | succ i ih =>
      unfold sN
      cases e : Q i with
      | none => exact ih
      | some n =>
        show (if n < (sN Q i).2 then (some i, n) else sN Q i).2 ≤ 5001 ∧ 1 ≤ (if n < (sN Q i).2 then (some i, n) else sN Q i).2
        by_cases q : n < (sN Q i).2
        · rw [if_pos q]
          refine ⟨by show n ≤ 5001; omega, ?_⟩
          rw [← hQ] at e
          rcases fd_cases (onW F D V i) 5000 1 with ⟨h1, h2⟩ | ⟨n2, h1, h2, h3, h4, h5⟩
          · have e : fd (onW F D V i) 1 5000 = some n := e
            rw [h1] at e
            cases e
          · have e : fd (onW F D V i) 1 5000 = some n := e
            rw [h1] at e
            cases e
            exact h2
        · rw [if_neg q]
          exact ih
  unfold f_C_soonestFeast
  (try unfold QB); (try unfold QM); repeat (first | (with_reducible refine ok_lt ?_) | ((with_reducible refine ok_gd ?_ ?_); first | assumption | exact zb0 | exact zb1 | ((with_reducible apply ai_of) <;> first | assumption | omega | decide) | exact ai_lit (by assumption) (by decide) (by decide) (by decide)) | (refine ok_bR (by assumption) ?_))
  refine ok_up (dF D) (fun i st h' => h' = h ∧ st = (c, oI (sN Q i).1, nI (sN Q i).2, nI i)) ?_ FU 0 _ _ (Nat.zero_le _) ⟨rfl, rfl⟩ (by show _ < 10000; omega)
  intro k i st h' hi hI' kk
  obtain ⟨rfl, rfl⟩ := hI'
  show Ok (b_C_soonestFeast_9 k c (oI (sN Q i).1) (nI (sN Q i).2) (nI i) h') _
  unfold b_C_soonestFeast_9 b_C_soonestFeast_43
  (try unfold QB); (try unfold QM); repeat (first | (with_reducible refine ok_lt ?_) | ((with_reducible refine ok_gd ?_ ?_); first | assumption | exact zb0 | exact zb1 | ((with_reducible apply ai_of) <;> first | assumption | omega | decide) | exact ai_lit (by assumption) (by decide) (by decide) (by decide)) | (refine ok_bR (by assumption) ?_))
  rw [rO.2.1.2.2.2.1]
  refine ok_it hi (by omega) (fun e => ok_ret ⟨rfl, by rw [e]⟩) (fun hl => ?_)
  have hbi := hb i
  rw [nI_s (by omega)]
  (try unfold QB); (try unfold QM); repeat (first | (with_reducible refine ok_lt ?_) | ((with_reducible refine ok_gd ?_ ?_); first | assumption | exact zb0 | exact zb1 | ((with_reducible apply ai_of) <;> first | assumption | omega | decide) | exact ai_lit (by assumption) (by decide) (by decide) (by decide)) | (refine ok_bR (by assumption) ?_))
  refine ok_bd (ok_mono (ok_C_feastFrom X hl (a := 1) (b := (sN Q i).2 - 1) (by decide) (by omega)) ?_)
  intro y h2 hx
  obtain ⟨rfl, rfl⟩ := hx
  have e1 := fd_cut (P := onW F D V i) (k := 5000) (l := (sN Q i).2 - 1) (by omega)
  rw [show (sN Q i).2 - 1 + 1 = (sN Q i).2 by omega] at e1
  rw [show (sN Q i).2 - 1 + 1 - 1 = (sN Q i).2 - 1 by omega]
  have hQi : fd (onW F D V i) 1 5000 = Q i := by rw [← hQ]
  rw [hQi] at e1
  have hs : sN Q (i + 1) = match Q i with
    | some n => if n < (sN Q i).2 then (some i, n) else sN Q i
    | none => sN Q i := rfl
  cases e : Q i with
  | none =>
    rw [e] at hs e1
    rw [e1]
    refine ok_t rfl (kk _ _ hl ⟨rfl, ?_⟩)
    rw [hs, nI_1]
  | some n =>
    rw [e] at hs e1
    have e1 : fd (onW F D V i) 1 ((sN Q i).2 - 1) = if n < (sN Q i).2 then some n else none := e1
    rw [e1]
    have hs : sN Q (i + 1) = if n < (sN Q i).2 then (some i, n) else sN Q i := hs
    by_cases q : n < (sN Q i).2
    · rw [if_pos q] at hs ⊢
      refine ok_f (oI_ne (by omega)) (kk _ _ hl ⟨rfl, ?_⟩)
      rw [hs, nI_1]
      rfl
    · rw [if_neg q] at hs ⊢
      refine ok_t rfl (kk _ _ hl ⟨rfl, ?_⟩)
      rw [hs, nI_1]
theorem gq_le (P : Nat → Bool) (n : Nat) : (gq P n).1 ≤ n ∧ (gq P n).2 ≤ n := by
  induction n with
  | zero => exact ⟨Nat.le_refl _, Nat.le_refl _⟩
  | succ n ih =>
    unfold gq
    by_cases q : P (n + 1) = true
    · rw [if_pos q]
      refine ⟨Nat.le_refl _, ?_⟩
      show (if (gq P n).1 = 0 then (gq P n).2 else max (gq P n).2 (n + 1 - (gq P n).1)) ≤ n + 1
      split <;> omega
    · rw [if_neg q]
      omega
theorem ok_C_widestGap (X : CX h c o r D V F) {f : Nat} (hf : f < dF D) : Ok (f_C_widestGap c (nI f) h) (fun y h' => h' = h ∧ y = mI (gq (onW F D V f) 5000).2) := by
  have l1 := X.1.1
  generalize hP : onW F D V f = P
  have ff : ∀ {a b : Nat}, a ≤ 5001 → b ≤ 5000 → Ok (f_C_feastFrom c (nI f) (nI a) (nI b) h) (fun y h' => h' = h ∧ y = oI (fd P a (b + 1 - a))) := fun ha hb => by
    rw [← hP]
    exact ok_C_feastFrom X hf ha hb
  have tr : ∀ a, a ≤ 5000 → (fd P (a + 1) (5000 + 1 - (a + 1)) = none ∧ gq P 5000 = gq P a) ∨ ∃ d, fd P (a + 1) (5000 + 1 - (a + 1)) = some d ∧ a < d ∧ d ≤ 5000 ∧ gq P d = (d, if (gq P a).1 = 0 then (gq P a).2 else max (gq P a).2 (d - (gq P a).1)) := by
    intro a ha
    rcases fd_cases P (5000 + 1 - (a + 1)) (a + 1) with ⟨h1, h2⟩ | ⟨d, h1, h2, h3, h4, h5⟩
    · exact Or.inl ⟨h1, gq_gap ha (fun e g1 g2 => h2 e (by omega) (by omega))⟩
    · refine Or.inr ⟨d, h1, by omega, by omega, ?_⟩
      have e1 := gq_on (P := P) (n := d - 1) (by rw [show d - 1 + 1 = d by omega]; exact h4)
      rw [show d - 1 + 1 = d by omega, gq_gap (a := a) (b := d - 1) (by omega) (fun e g1 g2 => h5 e (by omega) (by omega))] at e1
      exact e1
  unfold f_C_widestGap
  (try unfold QB); (try unfold QM); repeat (first | (with_reducible refine ok_lt ?_) | ((with_reducible refine ok_gd ?_ ?_); first | assumption | exact zb0 | exact zb1 | ((with_reducible apply ai_of) <;> first | assumption | omega | decide) | exact ai_lit (by assumption) (by decide) (by decide) (by decide)) | (refine ok_bR (by assumption) ?_))
  refine ok_bd (ok_mono (ff (a := 1) (b := 5000) (by decide) (by decide)) ?_)
  intro y h1 hx
  obtain ⟨rfl, rfl⟩ := hx
  (try unfold QB); (try unfold QM); repeat (first | (with_reducible refine ok_lt ?_) | ((with_reducible refine ok_gd ?_ ?_); first | assumption | exact zb0 | exact zb1 | ((with_reducible apply ai_of) <;> first | assumption | omega | decide) | exact ai_lit (by assumption) (by decide) (by decide) (by decide)) | (refine ok_bR (by assumption) ?_))
  refine ok_dn (fun μ st h' => h' = h1 ∧ ∃ i q wd, st = (c, nI f, mI wd, oI q, nI i) ∧ μ = 6000 - i ∧ ((q = none ∧ wd = (gq P 5000).2 ∧ i ≤ 5000) ∨ ∃ d, q = some d ∧ i < d ∧ d ≤ 5000 ∧ gq P d = (d, wd))) ?_ FU 6000 _ _ ⟨rfl, 0, fd P 1 5000, 0, rfl, rfl, ?_⟩ (by show _ < 10000; decide)
  · intro k μ st h' hI' kc
    obtain ⟨rfl, i, q, wd, rfl, hμ, hq⟩ := hI'
    show Ok (b_C_widestGap_16 k c (nI f) (mI wd) (oI q) (nI i) h') _
    unfold b_C_widestGap_16 b_C_widestGap_59
    rcases hq with ⟨hq1, hq2, hq3⟩ | ⟨d, hq1, hq2, hq3, hq4⟩
    · rw [hq1]
      exact ok_ile (a := 5000) (by decide) (by omega) (fun _ => ok_ret ⟨rfl, by rw [hq2]⟩) (fun _ => ok_t rfl (ok_ret ⟨rfl, by rw [hq2]⟩))
    · rw [hq1]
      refine ok_ile (a := 5000) (by decide) (by omega) (fun g => by omega) (fun _ => ok_f (oI_ne (by omega)) ?_)
      (try unfold QB); (try unfold QM); repeat (first | (with_reducible refine ok_lt ?_) | ((with_reducible refine ok_gd ?_ ?_); first | assumption | exact zb0 | exact zb1 | ((with_reducible apply ai_of) <;> first | assumption | omega | decide) | exact ai_lit (by assumption) (by decide) (by decide) (by decide)) | (refine ok_bR (by assumption) ?_))
      show Ok (bd (f_C_feastFrom c (nI f) (nI d + 1) (nI 5000) h') _) _
      rw [nI_1]
      refine ok_bd (ok_mono (ff (a := d + 1) (b := 5000) (by omega) (by decide)) ?_)
      intro y h2 hx
      obtain ⟨rfl, rfl⟩ := hx
      have hwd : wd ≤ d := by
        have := (gq_le P d).2
        rw [hq4] at this
        exact this
      rcases tr d hq3 with ⟨g1, g2⟩ | ⟨d2, g1, g2, g3, g4⟩
      · rw [g1]
        refine ok_t rfl (kc (6000 - (i + 1)) _ _ (by omega) ⟨rfl, i + 1, none, wd, by rw [nI_1], rfl, Or.inl ⟨rfl, by rw [g2, hq4], by omega⟩⟩)
      · rw [g1]
        refine ok_f (oI_ne (by omega)) ?_
        show Ok (bd (f_Math_max (mI wd) (nI d2 - nI d) h2) _) _
        rw [pk_sub (by omega)]
        refine ok_bde (e_maxm (by omega) (by omega) (by omega)) ?_
        refine kc (6000 - (i + 1)) _ _ (by omega) ⟨rfl, i + 1, some d2, max wd (d2 - d), by rw [nI_1], rfl, Or.inr ⟨d2, rfl, by omega, g3, ?_⟩⟩
        rw [g4, hq4]
        show (d2, if d = 0 then wd else max wd (d2 - d)) = _
        rw [if_neg (by omega)]
  · rcases tr 0 (by decide) with ⟨g1, g2⟩ | ⟨d2, g1, g2, g3, g4⟩
    · exact Or.inl ⟨g1, by rw [g2]; rfl, by decide⟩
    · exact Or.inr ⟨d2, g1, by omega, g3, g4⟩
end CD
