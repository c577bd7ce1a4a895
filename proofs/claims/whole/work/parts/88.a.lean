/-! the game: what both sides compute; 0 is 'none', s + 1 is 's' -/
def bst (c : Bool) (a b : Nat) : Nat := if b = 0 then a else if a = 0 then b else if c = true then (if a < b then b else a) else (if b < a then b else a)
def mvU (D : DD) (k : Nat) (U : Nat → Nat) : Nat → Nat := if k = 0 then tnX D U else if k = 2 then bkX D U else U
def feN (D : DD) (f : Nat) (U : Nat → Nat) : Nat := if isOnB D U f = true then 1 else 0
def bk3 (c : Bool) (s : Nat → Nat) : Nat → Nat
  | 0 => 0
  | i + 1 => bst c (bk3 c s i) (s i)
def subG (D : DD) (f : Nat) (g : (Nat → Nat) → Nat) (U : Nat → Nat) (k : Nat) : Nat := if k = 2 ∧ U 0 = 0 then 0 else g (mvU D k U) + feN D f (mvU D k U)
def gw (D : DD) (f : Nat) : Nat → Bool → (Nat → Nat) → Nat
  | 0, _, _ => 1
  | n + 1, c, U => bk3 c (subG D f (gw D f n (!c)) U) 3
abbrev bet (c : Bool) (a b : Nat) : Prop := b ≠ 0 ∧ (a = 0 ∨ (c = true ∧ a < b) ∨ (c = false ∧ b < a))
def gmv (c : Bool) (s : Nat → Nat) : Nat → Nat
  | 0 => 0
  | i + 1 => if bet c (bk3 c s i) (s i) then i else gmv c s i
theorem bet_t {a b : Nat} : bet true a b ↔ b ≠ 0 ∧ (a = 0 ∨ a < b) := by
  unfold bet
  simp
theorem bet_f {a b : Nat} : bet false a b ↔ b ≠ 0 ∧ (a = 0 ∨ b < a) := by
  unfold bet
  simp
theorem bst_e {c : Bool} {a b : Nat} : bst c a b = if bet c a b then b else a := by
  unfold bst bet
  by_cases hb : b = 0
  · rw [if_pos hb, if_neg (fun e => e.1 hb)]
  · rw [if_neg hb]
    by_cases ha : a = 0
    · rw [if_pos ha, if_pos ⟨hb, Or.inl ha⟩]
    · rw [if_neg ha]
      cases c
      · rw [if_neg (by decide)]
        by_cases h : b < a
        · rw [if_pos h, if_pos ⟨hb, Or.inr (Or.inr ⟨rfl, h⟩)⟩]
        · rw [if_neg h, if_neg (fun e => by rcases e.2 with g | g | g; exact ha g; exact absurd g.1 (by decide); exact h g.2)]
      · rw [if_pos rfl]
        by_cases h : a < b
        · rw [if_pos h, if_pos ⟨hb, Or.inr (Or.inl ⟨rfl, h⟩)⟩]
        · rw [if_neg h, if_neg (fun e => by rcases e.2 with g | g | g; exact ha g; exact h g.2; exact absurd g.1 (by decide))]
section GM
variable {D : DD} {f n : Nat} {U V : Nat → Nat} {c : Bool} {s : Nat → Nat}
theorem feN_le : feN D f U ≤ 1 := by
  unfold feN
  split <;> omega
theorem bst_le {a b m : Nat} (ha : a ≤ m) (hb : b ≤ m) : bst c a b ≤ m := by
  rw [bst_e]
  split
  · omega
  · omega
theorem bst_pos {a b : Nat} (h : 0 < a ∨ 0 < b) : 0 < bst c a b := by
  rw [bst_e]
  unfold bet
  split
  · omega
  · rename_i g
    by_cases e : 0 < a
    · exact e
    · exact absurd ⟨by omega, Or.inl (by omega)⟩ g
theorem bk3_le {m : Nat} (hs : ∀ i, s i ≤ m) (i : Nat) : bk3 c s i ≤ m := by
  induction i with
  | zero => exact Nat.zero_le _
  | succ i ih => exact bst_le ih (hs i)
theorem bk3_pos (h0 : 0 < s 0) (i : Nat) : 0 < bk3 c s (i + 1) := by
  induction i with
  | zero => exact bst_pos (Or.inr h0)
  | succ i ih => exact bst_pos (Or.inl ih)
theorem gw_b (n : Nat) : ∀ (c : Bool) (U : Nat → Nat), 0 < gw D f n c U ∧ gw D f n c U ≤ n + 1 := by
  induction n with
  | zero => exact fun c U => ⟨Nat.one_pos, Nat.le_refl 1⟩
  | succ n ih =>
    intro c U
    refine ⟨bk3_pos ?_ 2, bk3_le (fun i => ?_) 3⟩
    · unfold subG
      rw [if_neg (by omega)]
      have := (ih (!c) (mvU D 0 U)).1
      omega
    · unfold subG
      split
      · omega
      · have := (ih (!c) (mvU D i U)).2
        have := feN_le (D := D) (f := f) (U := mvU D i U)
        omega
theorem sub_b (i : Nat) : subG D f (gw D f n (!c)) U i ≤ n + 2 := by
  unfold subG
  split
  · omega
  · have := (gw_b (D := D) (f := f) n (!c) (mvU D i U)).2
    have := feN_le (D := D) (f := f) (U := mvU D i U)
    omega
theorem sub_p {i : Nat} (h : ¬ (i = 2 ∧ U 0 = 0)) : 0 < subG D f (gw D f n (!c)) U i := by
  unfold subG
  rw [if_neg h]
  have := (gw_b (D := D) (f := f) n (!c) (mvU D i U)).1
  omega
/-- the best that there is stays the best -/
theorem bk3_cut {k : Nat} (hs : ∀ i, s i ≤ n + 2) (i : Nat) (hp : bk3 c s i = if c = true then n + 2 else 1) : bk3 c s (i + k) = bk3 c s i ∧ gmv c s (i + k) = gmv c s i := by
  induction k with
  | zero => exact ⟨rfl, rfl⟩
  | succ k ih =>
    have h1 : bk3 c s (i + (k + 1)) = bst c (bk3 c s (i + k)) (s (i + k)) := rfl
    have h2 : gmv c s (i + (k + 1)) = if bet c (bk3 c s (i + k)) (s (i + k)) then i + k else gmv c s (i + k) := rfl
    have h3 := hs (i + k)
    have h4 : ¬ bet c (bk3 c s (i + k)) (s (i + k)) := by
      rw [ih.1, hp]
      cases c
      · rw [if_neg (by decide), bet_f]
        omega
      · rw [if_pos rfl, bet_t]
        omega
    rw [h1, h2, bst_e, if_neg h4, if_neg h4]
    exact ih
/-- the first that reaches the best -/
theorem gmv_at (h0 : 0 < s 0) (i : Nat) : gmv c s (i + 1) < i + 1 ∧ s (gmv c s (i + 1)) = bk3 c s (i + 1) ∧ (∀ j, j < gmv c s (i + 1) → s j ≠ bk3 c s (i + 1)) ∧ ∀ j, j < i + 1 → s j ≠ 0 → ¬ bet c (bk3 c s (i + 1)) (s j) := by
  induction i with
  | zero =>
    have h1 : bet c (bk3 c s 0) (s 0) := ⟨by omega, Or.inl rfl⟩
    have e1 : bk3 c s 1 = s 0 := by
      show bst c (bk3 c s 0) (s 0) = s 0
      rw [bst_e, if_pos h1]
    have e2 : gmv c s 1 = 0 := if_pos h1
    rw [e1, e2]
    refine ⟨by omega, rfl, fun j hj => by omega, fun j hj hn => ?_⟩
    have : j = 0 := by omega
    subst this
    unfold bet
    omega
  | succ i ih =>
    have hp := bk3_pos (c := c) h0 i
    obtain ⟨g1, g2, g3, g4⟩ := ih
    have h1 : bk3 c s (i + 1 + 1) = if bet c (bk3 c s (i + 1)) (s (i + 1)) then s (i + 1) else bk3 c s (i + 1) := bst_e
    have h2 : gmv c s (i + 1 + 1) = if bet c (bk3 c s (i + 1)) (s (i + 1)) then i + 1 else gmv c s (i + 1) := rfl
    by_cases q : bet c (bk3 c s (i + 1)) (s (i + 1))
    · rw [if_pos q] at h1 h2
      rw [h1, h2]
      refine ⟨by omega, rfl, fun j hj e => ?_, fun j hj hn e => ?_⟩
      · exact g4 j hj (by rw [e]; exact q.1) (by rw [e]; exact q)
      · rcases Nat.lt_or_ge j (i + 1) with hl | hl
        · refine g4 j hl hn ?_
          cases c
          · rw [bet_f] at *
            omega
          · rw [bet_t] at *
            omega
        · have : j = i + 1 := by omega
          subst this
          unfold bet at e
          omega
    · rw [if_neg q] at h1 h2
      rw [h1, h2]
      refine ⟨by omega, g2, g3, fun j hj hn => ?_⟩
      rcases Nat.lt_or_ge j (i + 1) with hl | hl
      · exact g4 j hl hn
      · have : j = i + 1 := by omega
        subst this
        exact q
theorem mvU_eq (e : EqV V U) (k : Nat) : EqV (mvU D k V) (mvU D k U) := by
  unfold mvU
  split
  · exact (EqV.tn (D := D) (V := V) (V' := V) EqV.rf).symm.trans (EqV.tn e)
  · split
    · exact (EqV.bk (D := D) (V := V) (V' := V) EqV.rf).symm.trans (EqV.bk e)
    · exact e
theorem subG_0 (k : Nat) (g : (Nat → Nat) → Nat) (h : k ≠ 2 ∨ U 0 ≠ 0) : subG D f g U k = g (mvU D k U) + feN D f (mvU D k U) := if_neg (by omega)
theorem WfN.bkX_ {n : Nat} (W : Wf D) (g : WfN D V n) : WfN D (bkX D V) n := by
  have hv := g.wf
  obtain ⟨g0, g1, g2, g3⟩ := g
  have hv' : WfV D (upV V 0 (V 0 - 1)) := ⟨by show V 0 - 1 < _; omega, g1, by show V 2 < _; omega, fun w hw => by show (if 3 + w = 0 then _ else V (3 + w)) < _; rw [if_neg (by omega)]; exact g3 w hw⟩
  have lo : ∀ k, k < 3 → bkX D V k = upV V 0 (V 0 - 1) k := fun k hk => mvV_lo (D := D) (s := false) (V := upV V 0 (V 0 - 1)) (i := dW D) (k := k) hk
  refine ⟨by rw [lo 0 (by decide)]; show V 0 - 1 + n < _; omega, by rw [lo 1 (by decide)]; exact g1, by rw [lo 2 (by decide)]; exact g2, fun w hw => ?_⟩
  have e3 : bkX D V (3 + w) = mt D false (upV V 0 (V 0 - 1)) w := mvV_at hw
  rw [e3]
  exact mt_lt W hv' hw
theorem WfN.dn {n n2 : Nat} (g : WfN D V n) (h : n2 ≤ n) : WfN D V n2 := by
  obtain ⟨g0, g1, g2, g3⟩ := g
  exact ⟨by omega, g1, by omega, g3⟩
theorem WfN.bkV_ {n : Nat} (W : Wf D) (g : WfN D V (n + 1)) : WfN D (bkV D V) n := by
  have h1 := WfN.bkX_ W g
  have hJ := mvJ_le (D := D) (s := false) (V := upV V 0 (V 0 - 1)) (i := dW D)
  have w1 := W.1
  have e := EqV.bk (D := D) (V := V) EqV.rf
  obtain ⟨g0, g1, g2, g3⟩ := g
  have e2 : bkV D V 2 = V 2 + mvJ D false (upV V 0 (V 0 - 1)) (dW D) := rfl
  refine ⟨by rw [e 0 (by decide)]; have := h1.1; omega, by rw [e 1 (by decide)]; exact h1.2.1, by omega, fun w hw => ?_⟩
  rw [e (3 + w) (by omega)]
  exact h1.2.2.2 w hw
theorem WfN.mvU_ {n : Nat} (W : Wf D) (g : WfN D V (n + 1)) (k : Nat) : WfN D (mvU D k V) n := by
  unfold mvU
  split
  · exact g.tnX_ W
  · split
    · exact (g.bkX_ W).dn (by omega)
    · exact g.dn (by omega)
end GM
