/-! the game as the reference plays it: every line of moves, then from behind -/
def pr (D : DD) (f : Nat) (U : Nat → Nat) : Nat → Nat → (Nat → Nat) × Nat × Bool
  | 0, _ => (U, 0, true)
  | k + 1, a => (mvU D (a % 3) (pr D f U k (a / 3)).1, (pr D f U k (a / 3)).2.1 + feN D f (mvU D (a % 3) (pr D f U k (a / 3)).1), (pr D f U k (a / 3)).2.2 && !decide (a % 3 = 2 ∧ (pr D f U k (a / 3)).1 0 = 0))
def lv (D : DD) (f : Nat) (U : Nat → Nat) (n k a : Nat) : Nat := if (pr D f U k a).2.2 = true then (pr D f U k a).2.1 + gw D f (n - k) (decide (k % 2 = 1)) (pr D f U k a).1 else 0
def adZ (t a : Nat) : Nat := if a = 0 then 0 else t + a
section GR
variable {D : DD} {f n : Nat} {U V : Nat → Nat} {c : Bool} {s : Nat → Nat}
theorem bk3_cg {s' : Nat → Nat} (i : Nat) (h : ∀ j, j < i → s j = s' j) : bk3 c s i = bk3 c s' i := by
  induction i with
  | zero => rfl
  | succ i ih =>
    show bst c _ _ = bst c _ _
    rw [ih (fun j hj => h j (by omega)), h i (by omega)]
theorem bet_ad {t a b : Nat} : bet c (adZ t a) (adZ t b) ↔ bet c a b := by
  unfold adZ
  by_cases ha : a = 0
  · by_cases hb : b = 0
    · rw [if_pos ha, if_pos hb, ha, hb]
    · rw [if_pos ha, if_neg hb]
      exact ⟨fun _ => ⟨hb, Or.inl ha⟩, fun _ => ⟨by omega, Or.inl rfl⟩⟩
  · by_cases hb : b = 0
    · rw [if_pos hb]
      exact ⟨fun g => absurd rfl g.1, fun g => absurd hb g.1⟩
    · rw [if_neg ha, if_neg hb]
      cases c
      · rw [bet_f, bet_f]
        omega
      · rw [bet_t, bet_t]
        omega
theorem bk3_ad (t i : Nat) : bk3 c (fun j => adZ t (s j)) i = adZ t (bk3 c s i) := by
  induction i with
  | zero => rfl
  | succ i ih =>
    show bst c _ (adZ t (s i)) = adZ t (bst c _ _)
    rw [ih, bst_e, bst_e]
    by_cases q : bet c (bk3 c s i) (s i)
    · rw [if_pos q, if_pos (bet_ad.mpr q)]
    · rw [if_neg q, if_neg (fun e => q (bet_ad.mp e))]
theorem bk3_z (i : Nat) : bk3 c (fun _ => 0) i = 0 := by
  induction i with
  | zero => rfl
  | succ i ih =>
    show bst c _ _ = 0
    rw [ih, bst_e, if_neg (fun e => e.1 rfl)]
theorem pr_at (k a i : Nat) (hi : i < 3) : pr D f U (k + 1) (3 * a + i) = (mvU D i (pr D f U k a).1, (pr D f U k a).2.1 + feN D f (mvU D i (pr D f U k a).1), (pr D f U k a).2.2 && !decide (i = 2 ∧ (pr D f U k a).1 0 = 0)) := by
  have e1 : (3 * a + i) / 3 = a := by omega
  have e2 : (3 * a + i) % 3 = i := by omega
  show (mvU D ((3 * a + i) % 3) (pr D f U k ((3 * a + i) / 3)).1, _, _) = _
  rw [e1, e2]
theorem lv_s {k a : Nat} (hk : k < n) : lv D f U n k a = bk3 (decide (k % 2 = 1)) (fun i => lv D f U n (k + 1) (3 * a + i)) 3 := by
  have hcn : (!decide (k % 2 = 1)) = decide ((k + 1) % 2 = 1) := by
    by_cases q : k % 2 = 1
    · rw [decide_eq_true q, decide_eq_false (by omega)]
      rfl
    · rw [decide_eq_false q, decide_eq_true (by omega)]
      rfl
  obtain ⟨e, he⟩ : ∃ e, n - k = e + 1 := ⟨n - k - 1, by omega⟩
  have he2 : n - (k + 1) = e := by omega
  cases q : (pr D f U k a).2.2 with
  | false =>
    have h1 : ∀ j, j < 3 → lv D f U n (k + 1) (3 * a + j) = (fun _ => 0) j := fun j hj => by
      unfold lv
      rw [pr_at k a j hj, q]
      rfl
    rw [bk3_cg 3 h1, bk3_z]
    unfold lv
    rw [q]
    rfl
  | true =>
    have h1 : ∀ j, j < 3 → lv D f U n (k + 1) (3 * a + j) = (fun j => adZ (pr D f U k a).2.1 (subG D f (gw D f e (!decide (k % 2 = 1))) (pr D f U k a).1 j)) j := fun j hj => by
      unfold lv
      rw [pr_at k a j hj, q, he2, ← hcn]
      show (if (true && !decide (j = 2 ∧ (pr D f U k a).1 0 = 0)) = true then _ else _) = adZ _ _
      by_cases w : j = 2 ∧ (pr D f U k a).1 0 = 0
      · rw [decide_eq_true w, if_neg (by decide)]
        unfold adZ subG
        rw [if_pos w, if_pos rfl]
      · rw [decide_eq_false w, if_pos (by decide)]
        have := sub_p (D := D) (f := f) (n := e) (c := decide (k % 2 = 1)) w
        unfold adZ
        rw [if_neg (by omega)]
        unfold subG
        rw [if_neg w]
        show (pr D f U k a).2.1 + feN D f (mvU D j (pr D f U k a).1) + gw D f e _ (mvU D j (pr D f U k a).1) = _
        omega
    rw [bk3_cg 3 h1, bk3_ad]
    unfold lv
    rw [if_pos q, he]
    show _ = adZ _ (gw D f (e + 1) (decide (k % 2 = 1)) (pr D f U k a).1)
    have := (gw_b (D := D) (f := f) (e + 1) (decide (k % 2 = 1)) (pr D f U k a).1).1
    unfold adZ
    rw [if_neg (by omega)]
theorem pr_le (k : Nat) : ∀ a, (pr D f U k a).2.1 ≤ k := by
  induction k with
  | zero => exact fun a => Nat.le_refl 0
  | succ k ih =>
    intro a
    have := ih (a / 3)
    have := feN_le (D := D) (f := f) (U := mvU D (a % 3) (pr D f U k (a / 3)).1)
    show (pr D f U k (a / 3)).2.1 + feN D f (mvU D (a % 3) (pr D f U k (a / 3)).1) ≤ k + 1
    omega
theorem lv_le {k a : Nat} (hk : k ≤ n) : lv D f U n k a ≤ n + 1 := by
  unfold lv
  split
  · have := pr_le (D := D) (f := f) (U := U) k a
    have := (gw_b (D := D) (f := f) (n - k) (decide (k % 2 = 1)) (pr D f U k a).1).2
    omega
  · omega
theorem pr_pre (i j : Nat) : ∀ a, (pr D f U (i + j) a).2.2 = true → (pr D f U i (a / 3 ^ j)).2.2 = true := by
  induction j with
  | zero =>
    intro a h
    rw [Nat.pow_zero, Nat.div_one]
    exact h
  | succ j ih =>
    intro a h
    have h : ((pr D f U (i + j) (a / 3)).2.2 && !decide (a % 3 = 2 ∧ (pr D f U (i + j) (a / 3)).1 0 = 0)) = true := h
    rw [Bool.and_eq_true] at h
    have := ih _ h.1
    rw [Nat.div_div_eq_div_mul, Nat.mul_comm, ← Nat.pow_succ] at this
    exact this
theorem pr_wf (W : Wf D) {n : Nat} (hv : WfN D U n) (k : Nat) : ∀ a, k ≤ n → WfN D (pr D f U k a).1 (n - k) := by
  induction k with
  | zero => exact fun a _ => hv
  | succ k ih =>
    intro a hk
    have h := ih (a / 3) (by omega)
    rw [show n - k = n - (k + 1) + 1 by omega] at h
    exact h.mvU_ W _
theorem lv_0 (a : Nat) : lv D f U n 0 a = gw D f n false U := by
  unfold lv
  show (if true = true then 0 + gw D f (n - 0) (decide (0 % 2 = 1)) U else 0) = _
  rw [if_pos rfl, Nat.zero_add]
  rfl
theorem lv_1 {i : Nat} (hi : i < 3) (h : 0 < n) : lv D f U n 1 i = subG D f (gw D f (n - 1) true) U i := by
  unfold lv
  have e := pr_at (D := D) (f := f) (U := U) 0 0 i hi
  rw [show 3 * 0 + i = i by omega] at e
  rw [e]
  show (if (true && !decide (i = 2 ∧ U 0 = 0)) = true then 0 + feN D f (mvU D i U) + gw D f (n - 1) true (mvU D i U) else 0) = _
  by_cases w : i = 2 ∧ U 0 = 0
  · rw [decide_eq_true w, if_neg (by decide)]
    unfold subG
    rw [if_pos w]
  · rw [decide_eq_false w, if_pos (by decide)]
    unfold subG
    rw [if_neg w]
    omega
end GR
