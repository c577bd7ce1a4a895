/-! orbits of a wheel -/
def it (f : Nat → Nat) : Nat → Nat → Nat
  | 0, t => t
  | n + 1, t => f (it f n t)
theorem it_add (f : Nat → Nat) (a b t : Nat) : it f (a + b) t = it f a (it f b t) := by
  induction a with
  | zero => rw [Nat.zero_add]; rfl
  | succ a ih => rw [show a + 1 + b = a + b + 1 by omega]; show f (it f (a + b) t) = f (it f a (it f b t)); rw [ih]
theorem it_lt {f : Nat → Nat} {T t : Nat} (hf : ∀ u, u < T → f u < T) (ht : t < T) (n : Nat) : it f n t < T := by
  induction n with
  | zero => exact ht
  | succ n ih => exact hf _ ih
/-- no more different numbers below m than m -/
theorem php (m : Nat) : ∀ (n : Nat) (f : Nat → Nat), (∀ i, i < n → f i < m) → (∀ i j, i < j → j < n → f i ≠ f j) → n ≤ m := by
  induction m with
  | zero =>
    intro n f h1 _
    rcases Nat.eq_zero_or_pos n with e | e
    · omega
    · exact absurd (h1 0 e) (Nat.not_lt_zero _)
  | succ m ih =>
    intro n f h1 h2
    by_cases hx : ∃ i, i < n ∧ f i = m
    · obtain ⟨i, hi, e⟩ := hx
      have g := ih (n - 1) (fun k => f (if k < i then k else k + 1)) (fun k hk => ?_) (fun a b hab hb => ?_)
      · omega
      · show f (if k < i then k else k + 1) < m
        have l : (if k < i then k else k + 1) < n := by split <;> omega
        have ne : (if k < i then k else k + 1) ≠ i := by split <;> omega
        generalize (if k < i then k else k + 1) = k' at l ne
        have g1 := h1 k' l
        have g2 : f k' ≠ m := fun q => by
          rcases Nat.lt_or_gt_of_ne ne with o | o
          · exact h2 k' i o hi (by rw [q, e])
          · exact h2 i k' o l (by rw [q, e])
        omega
      · show f (if a < i then a else a + 1) ≠ f (if b < i then b else b + 1)
        refine h2 _ _ ?_ ?_
        · split <;> split <;> omega
        · split <;> omega
    · have g := ih n f (fun k hk => by
        have g1 := h1 k hk
        have g2 : f k ≠ m := fun q => hx ⟨k, hk, q⟩
        omega) h2
      omega
/-- an orbit: its length L and where it comes back, r -/
def Orb (f : Nat → Nat) (t L r : Nat) : Prop := r < L ∧ it f L t = it f r t ∧ ∀ i j, i < j → j < L → it f i t ≠ it f j t
theorem orb_sh {f : Nat → Nat} {t L r : Nat} (o : Orb f t L r) (k : Nat) : it f (L + k) t = it f (r + k) t := by
  rw [show L + k = k + L by omega, show r + k = k + r by omega, it_add, it_add, o.2.1]
theorem orb_rd {f : Nat → Nat} {t L r : Nat} (o : Orb f t L r) (n : Nat) (h : r ≤ n) : it f n t = it f (r + (n - r) % (L - r)) t := by
  have hl := o.1
  induction n using Nat.strongRecOn with
  | ind n ih =>
    by_cases q : n < L
    · rw [Nat.mod_eq_of_lt (by omega), show r + (n - r) = n by omega]
    · have e := orb_sh o (n - L)
      rw [show L + (n - L) = n by omega] at e
      rw [e, ih (r + (n - L)) (by omega) (by omega)]
      have e2 : (n - r) % (L - r) = (r + (n - L) - r) % (L - r) := by
        rw [Nat.mod_eq_sub_mod (a := n - r) (by omega)]
        congr 1
        omega
      rw [e2]
theorem orb_in {f : Nat → Nat} {t L r : Nat} (o : Orb f t L r) (n : Nat) : ∃ i, i < L ∧ it f n t = it f i t ∧ (n < L → i = n) ∧ (r ≤ n → r ≤ i) := by
  have hl := o.1
  by_cases q : n < L
  · exact ⟨n, q, rfl, fun _ => rfl, fun h => h⟩
  · have := Nat.mod_lt (n - r) (show 0 < L - r by omega)
    exact ⟨r + (n - r) % (L - r), by omega, orb_rd o n (by omega), fun h => absurd h q, fun _ => by omega⟩
/-- the same tooth twice: a multiple of the round apart -/
theorem orb_eq {f : Nat → Nat} {t L r : Nat} (o : Orb f t L r) {i n : Nat} (hi : i < L) (hn : L ≤ n) (e : it f n t = it f i t) : r ≤ i ∧ (n - r) % (L - r) = i - r := by
  have hl := o.1
  have hm := Nat.mod_lt (n - r) (show 0 < L - r by omega)
  have e2 := orb_rd o n (by omega)
  rw [e] at e2
  have e3 : i = r + (n - r) % (L - r) := by
    rcases Nat.lt_trichotomy i (r + (n - r) % (L - r)) with q | q | q
    · exact absurd e2 (o.2.2 _ _ q (by omega))
    · exact q
    · exact absurd e2.symm (o.2.2 _ _ q hi)
  omega
/-- goings until day n -/
def gs (k d o n : Nat) : Nat := if k = 2 then min n o else if k = 3 then (n + (if d % 2 = 0 then 1 else 0)) / 2 else n
theorem gs_0 (k d o : Nat) : gs k d o 0 = 0 := by
  unfold gs
  split
  · exact Nat.zero_min _
  · split
    · split <;> rfl
    · rfl
theorem gs_mono {k d o a b : Nat} (h : a ≤ b) : gs k d o a ≤ gs k d o b := by
  unfold gs
  split
  · omega
  · split
    · omega
    · exact h
theorem gs_le {k d o n : Nat} : gs k d o n ≤ n := by
  unfold gs
  split
  · omega
  · split
    · split <;> omega
    · exact Nat.le_refl _
theorem gs_s {k d o n : Nat} : gs k d o (n + 1) = gs k d o n + (if (if k = 2 then decide (0 < o - n) else if k = 3 then decide ((d + n) % 2 = 0) else true) = true then 1 else 0) := by
  unfold gs
  by_cases q : k = 2
  · rw [if_pos q, if_pos q, if_pos q]
    by_cases q2 : 0 < o - n
    · rw [decide_eq_true q2, if_pos rfl]
      omega
    · rw [decide_eq_false q2, if_neg (by decide)]
      omega
  · rw [if_neg q, if_neg q, if_neg q]
    by_cases q3 : k = 3
    · rw [if_pos q3, if_pos q3, if_pos q3]
      have e4 : (if decide ((d + n) % 2 = 0) = true then 1 else 0) = (if (d + n) % 2 = 0 then 1 else 0) := by
        by_cases q2 : (d + n) % 2 = 0
        · rw [decide_eq_true q2, if_pos rfl, if_pos q2]
        · rw [decide_eq_false q2, if_neg Bool.false_ne_true, if_neg q2]
      rw [e4]
      by_cases q4 : d % 2 = 0
      · rw [if_pos q4]
        split <;> omega
      · rw [if_neg q4]
        split <;> omega
    · rw [if_neg q3, if_neg q3, if_neg q3, if_pos rfl]
/-- the day on which the p-th going is done -/
theorem gs_day {k d o p e : Nat} (hp : 0 < p) (h : if k = 2 then p ≤ o else True) (he : e < (if k = 3 then 2 * p - (if d % 2 = 0 then 1 else 0) else p)) : gs k d o e < p := by
  unfold gs
  by_cases q : k = 2
  · rw [if_pos q] at h ⊢
    rw [if_neg (by omega)] at he
    omega
  · rw [if_neg q]
    by_cases q3 : k = 3
    · rw [if_pos q3] at he ⊢
      split at he <;> split <;> omega
    · rw [if_neg q3] at he ⊢
      exact he
theorem gs_day2 {k d o p e : Nat} (hp : 0 < p) (h : if k = 2 then p ≤ o else True) (he : gs k d o e < p) : e < (if k = 3 then 2 * p - (if d % 2 = 0 then 1 else 0) else p) := by
  unfold gs at he
  by_cases q : k = 2
  · rw [if_pos q] at h he
    rw [if_neg (by omega)]
    omega
  · rw [if_neg q] at he
    by_cases q3 : k = 3
    · rw [if_pos q3] at he ⊢
      split at he <;> split <;> omega
    · rw [if_neg q3] at he ⊢
      exact he
