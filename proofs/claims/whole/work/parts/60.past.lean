/-! the class's past: a ring of 16 kept states (the latest first in K), and three images -/
def RepP (h : Hp) (p : Nat) (K : Nat → Nat → Nat) (c : Nat) (Im : Nat → Nat → Nat) (j : Nat) : Prop := hS h p = some (.inl 4) ∧ hR h p 0 = some (p + 1) ∧ hR h p 1 = some (p + 2) ∧ hS h (p + 1) = some (.inr (0, 128)) ∧ hS h (p + 2) = some (.inr (0, 24)) ∧ c ≤ 16 ∧ j ≤ 3 ∧ hI h p 2 = nI c ∧ hI h p 4 = nI j ∧ (∃ pl, pl < 16 ∧ hI h p 3 = nI pl ∧ ∀ i, i < c → ∀ k, k < 8 → hI h (p + 1) (8 * ((pl + 15 - i) % 16) + k) = nI (K i k)) ∧ ∀ i, i < j → ∀ k, k < 8 → hI h (p + 2) (8 * i + k) = nI (Im i k)
def shK (K : Nat → Nat → Nat) (V : Nat → Nat) : Nat → Nat → Nat
  | 0 => V
  | i + 1 => K i
/-- what the past writes -/
def sP (p : Nat) (a k : Nat) : Prop := (a = p ∧ (k = 2 ∨ k = 3 ∨ k = 4)) ∨ a = p + 1 ∨ a = p + 2
theorem hI_uC {h : Hp} {a0 a sp dp n b k : Nat} : hI (uC h a0 a sp dp n) b k = if b = a then va_cpy (hI h a0) (hI h a) sp dp n k else hI h b k := rfl
theorem ring_1 {pl i : Nat} (h : pl < 16) (hi : i < 16) : ((if pl = 15 then 0 else pl + 1) + 15 - i) % 16 = if i = 0 then pl else (pl + 15 - (i - 1)) % 16 := by
  by_cases q : pl = 15
  · rw [if_pos q, q]
    by_cases q2 : i = 0
    · rw [if_pos q2, q2]
    · rw [if_neg q2]
      omega
  · rw [if_neg q]
    by_cases q2 : i = 0
    · rw [if_pos q2, q2]
      omega
    · rw [if_neg q2]
      congr 1
      omega
theorem ring_ne {pl i : Nat} (h : pl < 16) (hi : i < 15) : (pl + 15 - i) % 16 ≠ pl := by omega
theorem e_min {h : Hp} {a b : Nat} (ha : a < 2 ^ 31) (hb : b < 2 ^ 31) : f_Math_min (nI a) (nI b) h = some (nI (min a b), h) := by
  unfold f_Math_min
  by_cases q : b < a
  · rw [if_pos (nI_lt q ha), Nat.min_eq_right (by omega)]
  · rw [if_neg (nI_nlt (by omega) hb), Nat.min_eq_left (by omega)]
theorem nI_m8 (a : Nat) : nI a * 8 = nI (8 * a) := by
  show nI a * nI 8 = _
  rw [pk_mul, Nat.mul_comm]
theorem cpok_n {h : Hp} {a r n0 n1 sp dp : Nat} (ha : hS h a = some (.inr (0, n0))) (hr : hS h r = some (.inr (0, n1))) (h0 : sp + 8 ≤ n0) (h1 : dp + 8 ≤ n1) (g0 : n0 < 2 ^ 31) (g1 : n1 < 2 ^ 31) : cpok h a r (nI sp) (nI dp) 8 := ⟨n0, n1, ha, hr, nI_pos (by omega), nI_pos (by omega), by decide, by rw [nI_clamp (by omega)]; exact h0, by rw [nI_clamp (by omega)]; exact h1⟩
theorem ok_P_keep {h : Hp} {p r c j : Nat} {K Im : Nat → Nat → Nat} {V : Nat → Nat} (P : RepP h p K c Im j) (v : RepV h r V) : Ok (f_P_keep p r h) (fun _ h' => Fk (sP p) h h' ∧ RepP h' p (shK K V) (min 16 (c + 1)) Im j) := by
  obtain ⟨p1, p2, p3, p4, p5, p6, p7, p8, p9, ⟨pl, hpl, p10, p11⟩, p12⟩ := P
  have e0 : (0 : Int32).toNatClampNeg = 0 := by decide
  have e8 : (8 : Int32).toNatClampNeg = 8 := by decide
  unfold f_P_keep b_P_keep_38
  rw [e0, e8, p10]
  have hF0 : Fk (sP p) h (uC h r (p + 1) 0 (8 * pl) 8) := fk_uC (fun k => Or.inr (Or.inl rfl))
  have q3 : hI (uC h r (p + 1) 0 (8 * pl) 8) p 3 = nI pl := by rw [hI_uC, if_neg (by omega)]; exact p10
  have fin : ∀ y : Int32, y = nI (if pl = 15 then 0 else pl + 1) → Ok (gd (hS (uC h r (p + 1) 0 (8 * pl) 8) p = some (.inl 4)) (lt (uI (uC h r (p + 1) 0 (8 * pl) 8) p 3 y) fun h1 => gd (hS h1 p = some (.inl 4)) (lt (hI h1 p 2) fun x2 => bd (f_Math_min (16 : Int32) (x2 + 1) h1) fun r4 h3 => gd (hS h3 p = some (.inl 4)) (lt (uI h3 p 2 r4) fun h5 => some ((), h5))))) (fun _ h' => Fk (sP p) h h' ∧ RepP h' p (shK K V) (min 16 (c + 1)) Im j) := by
    intro y hy
    refine ok_gd p1 (ok_lt (ok_gd p1 (ok_lt ?_)))
    have q2 : hI (uI (uC h r (p + 1) 0 (8 * pl) 8) p 3 y) p 2 = nI c := by rw [hI_uIk (by decide), hI_uC, if_neg (by omega)]; exact p8
    rw [q2, nI_1]
    refine ok_bde (e_min (a := 16) (b := c + 1) (by decide) (by omega)) (ok_gd p1 (ok_lt (ok_ret ⟨?_, ?_⟩)))
    · exact (hF0.trans (fk_uI (Or.inl ⟨rfl, Or.inr (Or.inl rfl)⟩))).trans (fk_uI (Or.inl ⟨rfl, Or.inl rfl⟩))
    · refine ⟨p1, p2, p3, p4, p5, by omega, p7, hI_uIs, ?_, ⟨if pl = 15 then 0 else pl + 1, by split <;> omega, ?_, fun i hi k hk => ?_⟩, fun i hi k hk => ?_⟩
      · rw [hI_uIk (by decide), hI_uIk (by decide), hI_uC, if_neg (by omega)]
        exact p9
      · rw [hI_uIk (by decide), hI_uIs, hy]
      · rw [hI_uIa (by omega), hI_uIa (by omega), hI_uC, if_pos rfl, ring_1 hpl (by omega)]
        cases i with
        | zero =>
          rw [if_pos rfl, pk_cpy_in (by omega) (by omega), show 0 + (8 * pl + k - 8 * pl) = k by omega]
          exact v.2 k hk
        | succ i =>
          have hne := ring_ne (pl := pl) (i := i) hpl (by omega)
          rw [if_neg (by omega), show i + 1 - 1 = i by omega, pk_cpy_out (by omega)]
          exact p11 i (by omega) k hk
      · rw [hI_uIa (by omega), hI_uIa (by omega), hI_uC, if_neg (by omega)]
        exact p12 i hi k hk
  refine ok_gd p1 (ok_bR p2 (ok_gd p1 (ok_lt ?_)))
  rw [nI_m8, nI_clamp (n := 8 * pl) (by omega)]
  refine ok_gd (cpok_n (sp := 0) (dp := 8 * pl) v.1 p4 (by decide) (by omega) (by decide) (by decide)) (ok_lt (ok_gd p1 (ok_lt ?_)))
  rw [q3]
  refine ok_ite (fun c1 => fin _ ?_) (fun c1 => ok_gd p1 (ok_lt (fin _ ?_)))
  · have e : pl = 15 := (nI_eq (b := 15) (by omega) (by decide)).mp c1
    rw [if_pos e]
    rfl
  · rw [if_neg (fun e => c1 (by rw [e]; rfl)), nI_1]
