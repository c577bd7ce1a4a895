/-! the common divisor, on both sides -/
theorem lN_0 : lN 0 = 0 := by decide +kernel
theorem gc_st {a b : Nat} : Nat.gcd b (a % b) = Nat.gcd a b := by
  rw [Nat.gcd_comm b (a % b), ← Nat.gcd_rec b a, Nat.gcd_comm]
theorem gc_half {a b : Nat} (hb : 0 < b) (h : b ≤ a) : 2 * (b * (a % b)) ≤ a * b := by
  have h1 : a % b < b := Nat.mod_lt _ hb
  have h2 : b * (a / b) + a % b = a := Nat.div_add_mod a b
  have h3 : 1 ≤ a / b := (Nat.le_div_iff_mul_le hb).mpr (by omega)
  have h4 : b * 1 ≤ b * (a / b) := Nat.mul_le_mul_left b h3
  have h5 : 2 * (a % b) ≤ a := by omega
  calc 2 * (b * (a % b)) = (2 * (a % b)) * b := by rw [Nat.mul_comm b, Nat.mul_assoc]
    _ ≤ a * b := Nat.mul_le_mul_right b h5
theorem lrm_N {a b : Nat} (ha : a < 2 ^ 63) (h0 : 0 < b) (hb : b < 2 ^ 63) : lrm (lN a) (lN b) = lN (a % b) := pk_lRem ha h0 hb
theorem lN_z {b : Nat} (hb : b < 2 ^ 63) : (lN b = 0) ↔ b = 0 := by
  rw [← lN_0]
  exact pk_lEQ hb (by decide)
theorem gc_H {h : Hp} (k : Nat) : ∀ a b c f, b ≤ a → a * b < 2 ^ k → c + k < 100 → a < 2 ^ 63 → l_H_commonDivisor_9 (f + k + 1) (lN a, lN b, nI c) h = some (lN (Nat.gcd a b), h) := by
  induction k with
  | zero =>
    intro a b c f hba hp hc ha
    have hb : b = 0 := by
      rcases Nat.eq_zero_or_pos b with e | e
      · exact e
      · have := Nat.mul_pos (Nat.lt_of_lt_of_le e hba) e
        omega
    show b_H_commonDivisor_9 (l_H_commonDivisor_9 f) (lN a) (lN b) (nI c) h = _
    unfold b_H_commonDivisor_9
    rw [if_neg (show ¬ (100 : Int32) ≤ nI c from nI_ge (b := 100) (by omega) (by decide)), if_pos ((lg_cmp_eq _ _).mpr ((lN_z (by omega)).mpr hb)), hb, Nat.gcd_zero_right]
  | succ k ih =>
    intro a b c f hba hp hc ha
    show b_H_commonDivisor_9 (l_H_commonDivisor_9 (f + k + 1)) (lN a) (lN b) (nI c) h = _
    unfold b_H_commonDivisor_9
    rw [if_neg (show ¬ (100 : Int32) ≤ nI c from nI_ge (b := 100) (by omega) (by decide))]
    rcases Nat.eq_zero_or_pos b with e | e
    · rw [if_pos ((lg_cmp_eq _ _).mpr ((lN_z (by omega)).mpr e)), e, Nat.gcd_zero_right]
    · have hz : ¬ lN b = 0 := fun g => by
        have := (lN_z (by omega)).mp g
        omega
      rw [if_neg (fun g => hz ((lg_cmp_eq _ _).mp g)), gd_pos hz, lrm_N ha e (by omega)]
      show l_H_commonDivisor_9 (f + k + 1) (lN b, lN (a % b), nI c + 1) h = _
      have hh := gc_half e hba
      rw [nI_1, ih b (a % b) (c + 1) f (Nat.le_of_lt (Nat.mod_lt _ e)) (by rw [Nat.pow_succ] at hp; omega) (by omega) (by omega), gc_st]
theorem gc_m {h : Hp} (k : Nat) : ∀ a b f, b ≤ a → a * b < 2 ^ k → a < 2 ^ 63 → l_m_common_6 (f + k + 1) (lN a, lN b) h = some (lN (Nat.gcd a b), h) := by
  induction k with
  | zero =>
    intro a b f hba hp ha
    have hb : b = 0 := by
      rcases Nat.eq_zero_or_pos b with e | e
      · exact e
      · have := Nat.mul_pos (Nat.lt_of_lt_of_le e hba) e
        omega
    show b_m_common_6 (l_m_common_6 f) (lN a) (lN b) h = _
    unfold b_m_common_6
    rw [if_pos ((lg_cmp_eq _ _).mpr ((lN_z (by omega)).mpr hb)), hb, Nat.gcd_zero_right]
  | succ k ih =>
    intro a b f hba hp ha
    show b_m_common_6 (l_m_common_6 (f + k + 1)) (lN a) (lN b) h = _
    unfold b_m_common_6
    rcases Nat.eq_zero_or_pos b with e | e
    · rw [if_pos ((lg_cmp_eq _ _).mpr ((lN_z (by omega)).mpr e)), e, Nat.gcd_zero_right]
    · have hz : ¬ lN b = 0 := fun g => by
        have := (lN_z (by omega)).mp g
        omega
      rw [if_neg (fun g => hz ((lg_cmp_eq _ _).mp g)), gd_pos hz, lrm_N ha e (by omega)]
      show l_m_common_6 (f + k + 1) (lN b, lN (a % b)) h = _
      have hh := gc_half e hba
      rw [ih b (a % b) f (Nat.le_of_lt (Nat.mod_lt _ e)) (by rw [Nat.pow_succ] at hp; omega) (by omega), gc_st]
theorem gc_p {a b : Nat} (ha : a < 2 ^ 44) (hb : b < 2 ^ 44) : a * b < 2 ^ 88 := Nat.lt_of_lt_of_eq (Nat.mul_lt_mul'' ha hb) (by decide)
theorem e_H_commonDivisor {h : Hp} {a b : Nat} (ha : a < 2 ^ 44) (hb : b < 2 ^ 44) : f_H_commonDivisor (lN a) (lN b) h = some (lN (Nat.gcd a b), h) := by
  show l_H_commonDivisor_9 10000 (lN a, lN b, nI 0) h = _
  rcases Nat.lt_or_ge a b with q | q
  · have hz : ¬ lN b = 0 := fun g => by
      have := (lN_z (by omega)).mp g
      omega
    show b_H_commonDivisor_9 (l_H_commonDivisor_9 9999) (lN a) (lN b) (nI 0) h = _
    unfold b_H_commonDivisor_9
    rw [if_neg (by decide), if_neg (fun g => hz ((lg_cmp_eq _ _).mp g)), gd_pos hz, lrm_N (by omega) (by omega) (by omega)]
    show l_H_commonDivisor_9 (9910 + 88 + 1) (lN b, lN (a % b), nI 0 + 1) h = _
    rw [nI_1, Nat.mod_eq_of_lt q, gc_H 88 b a 1 9910 (by omega) (gc_p hb ha) (by decide) (by omega), Nat.gcd_comm]
  · exact gc_H 88 a b 0 9911 q (gc_p ha hb) (by decide) (by omega)
theorem e_m_common {h : Hp} {a b : Nat} (ha : a < 2 ^ 44) (hb : b < 2 ^ 44) : f_m_common (lN a) (lN b) h = some (lN (Nat.gcd a b), h) := by
  show l_m_common_6 10000 (lN a, lN b) h = _
  rcases Nat.lt_or_ge a b with q | q
  · have hz : ¬ lN b = 0 := fun g => by
      have := (lN_z (by omega)).mp g
      omega
    show b_m_common_6 (l_m_common_6 9999) (lN a) (lN b) h = _
    unfold b_m_common_6
    rw [if_neg (fun g => hz ((lg_cmp_eq _ _).mp g)), gd_pos hz, lrm_N (by omega) (by omega) (by omega)]
    show l_m_common_6 (9910 + 88 + 1) (lN b, lN (a % b)) h = _
    rw [Nat.mod_eq_of_lt q, gc_m 88 b a 9910 (by omega) (gc_p hb ha) (by omega), Nat.gcd_comm]
  · exact gc_m 88 a b 9911 q (gc_p ha hb) (by omega)
