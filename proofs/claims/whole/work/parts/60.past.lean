/-! the class's past: a ring of 16 kept states (the latest first in K), and three images -/
def RepP (h : Hp) (p : Nat) (K : Nat → Nat → Nat) (c : Nat) (Im : Nat → Nat → Nat) (j : Nat) : Prop := hS h p = some (.inl 4) ∧ hR h p 0 = some (p + 1) ∧ hR h p 1 = some (p + 2) ∧ hS h (p + 1) = some (.inr (0, 128)) ∧ hS h (p + 2) = some (.inr (0, 24)) ∧ c ≤ 16 ∧ j ≤ 3 ∧ hI h p 2 = nI c ∧ hI h p 4 = nI j ∧ (∃ pl, pl < 16 ∧ hI h p 3 = nI pl ∧ ∀ i, i < c → ∀ k, k < 8 → hI h (p + 1) (8 * ((pl + 15 - i) % 16) + k) = nI (K i k)) ∧ ∀ i, i < j → ∀ k, k < 8 → hI h (p + 2) (8 * i + k) = nI (Im i k)
def shK (K : Nat → Nat → Nat) (V : Nat → Nat) : Nat → Nat → Nat
  | 0 => V
  | i + 1 => K i
/-- what the past writes -/
def sP (p : Nat) (a k : Nat) : Prop := (a = p ∧ (k = 2 ∨ k = 3 ∨ k = 4)) ∨ a = p + 1 ∨ a = p + 2
theorem hI_uC {h : Hp} {a0 a sp dp n b k : Nat} : hI (uC h a0 a sp dp n) b k = if b = a then va_cpy (hI h a0) (hI h a) sp dp n k else hI h b k := rfl
theorem ring_1 {pl i : Nat} (h : pl < 16) (hi : i < 16) : ((if pl = 15 then 0 else pl + 1) + 15 - i) % 16 = if i = 0 then pl else (pl + 15 - (i - 1)) % 16 := by
  by_cases q : pl = 15
  · rw [if_pos q, q]
    by_cases q2 : i = 0
    · rw [if_pos q2, q2]
    · rw [if_neg q2]
      omega
  · rw [if_neg q]
    by_cases q2 : i = 0
    · rw [if_pos q2, q2]
      omega
    · rw [if_neg q2]
      congr 1
      omega
theorem ring_ne {pl i : Nat} (h : pl < 16) (hi : i < 15) : (pl + 15 - i) % 16 ≠ pl := by omega
