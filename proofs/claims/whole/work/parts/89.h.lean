/-! THE READER: the text and its tokens, as both sides meet them -/
abbrev TX : Type := (Nat → Int32) × Nat
def cb (X : TX) (p : Nat) : Nat := (X.1 p &&& 255).toNatClampNeg
def BT (T : Nat → Int32) (n : Nat) : Prop := ∀ p, p < n → ∃ b : Int8, T p = b.toInt32
theorem i8_all {P : Int8 → Prop} (h : ∀ n, n < 256 → P (Int8.ofNat n)) (b : Int8) : P b := by
  have e : Int8.ofNat b.toBitVec.toNat = b := by
    apply Int8.toBitVec_inj.mp
    show BitVec.ofNat 8 b.toBitVec.toNat = b.toBitVec
    apply BitVec.eq_of_toNat_eq
    rw [BitVec.toNat_ofNat, Nat.mod_eq_of_lt b.toBitVec.isLt]
  rw [← e]
  exact h _ b.toBitVec.isLt
def c8 (b : Int8) : Nat := (b.toInt32 &&& 255).toNatClampNeg
theorem c8_1 (b : Int8) : c8 b < 256 ∧ b.toInt32 &&& 255 = nI (c8 b) ∧ (c8 b < 128 → b.toInt32 = nI (c8 b)) ∧ (128 ≤ c8 b → b.toInt32 < 0) := i8_all (P := fun b => c8 b < 256 ∧ b.toInt32 &&& 255 = nI (c8 b) ∧ (c8 b < 128 → b.toInt32 = nI (c8 b)) ∧ (128 ≤ c8 b → b.toInt32 < 0)) (by decide +kernel) b
def rnF (P : Nat → Bool) (X : TX) : Nat → Nat → Nat
  | 0, p => p
  | k + 1, p => if P (cb X p) = true then rnF P X k (p + 1) else p
/-- the end of a run of bytes -/
def rn (P : Nat → Bool) (X : TX) (p : Nat) : Nat := rnF P X (X.2 - p) p
def rvF (P : Nat → Bool) (B O : Nat) (X : TX) : Nat → Nat → Nat → Nat
  | 0, _, v => v
  | k + 1, p, v => if P (cb X p) = true then rvF P B O X k (p + 1) (B * v + (cb X p - O)) else v
/-- what a run says, to the base B -/
def rv (P : Nat → Bool) (B O : Nat) (X : TX) (p v : Nat) : Nat := rvF P B O X (X.2 - p) p v
section TK
variable {P : Nat → Bool} {B O : Nat} {X : TX} {p v : Nat}
theorem rn_e (h : X.2 ≤ p) : rn P X p = p := by
  unfold rn
  rw [show X.2 - p = 0 by omega]
  rfl
theorem rn_t (h : p < X.2) (q : P (cb X p) = true) : rn P X p = rn P X (p + 1) := by
  unfold rn
  obtain ⟨k, hk⟩ : ∃ k, X.2 - p = k + 1 := ⟨X.2 - p - 1, by omega⟩
  rw [hk, show X.2 - (p + 1) = k by omega]
  show (if P (cb X p) = true then rnF P X k (p + 1) else p) = _
  rw [if_pos q]
theorem rn_f (q : P (cb X p) = false) : rn P X p = p := by
  unfold rn
  cases hk : X.2 - p with
  | zero => rfl
  | succ k =>
    show (if P (cb X p) = true then rnF P X k (p + 1) else p) = _
    rw [if_neg (by rw [q]; decide)]
theorem rv_e (h : X.2 ≤ p) : rv P B O X p v = v := by
  unfold rv
  rw [show X.2 - p = 0 by omega]
  rfl
theorem rv_t (h : p < X.2) (q : P (cb X p) = true) : rv P B O X p v = rv P B O X (p + 1) (B * v + (cb X p - O)) := by
  unfold rv
  obtain ⟨k, hk⟩ : ∃ k, X.2 - p = k + 1 := ⟨X.2 - p - 1, by omega⟩
  rw [hk, show X.2 - (p + 1) = k by omega]
  show (if P (cb X p) = true then rvF P B O X k (p + 1) _ else v) = _
  rw [if_pos q]
theorem rv_f (q : P (cb X p) = false) : rv P B O X p v = v := by
  unfold rv
  cases hk : X.2 - p with
  | zero => rfl
  | succ k =>
    show (if P (cb X p) = true then rvF P B O X k (p + 1) _ else v) = _
    rw [if_neg (by rw [q]; decide)]
theorem rnF_b (k p : Nat) : p ≤ rnF P X k p ∧ rnF P X k p ≤ p + k := by
  induction k generalizing p with
  | zero => exact ⟨Nat.le_refl _, Nat.le_refl _⟩
  | succ k ih =>
    show p ≤ (if P (cb X p) = true then rnF P X k (p + 1) else p) ∧ (if P (cb X p) = true then rnF P X k (p + 1) else p) ≤ p + (k + 1)
    have := ih (p + 1)
    split <;> omega
theorem rn_b (h : p ≤ X.2) : p ≤ rn P X p ∧ rn P X p ≤ X.2 := by
  have := rnF_b (P := P) (X := X) (X.2 - p) p
  unfold rn
  omega
theorem rn_end (h : p ≤ X.2) : rn P X p = X.2 ∨ P (cb X (rn P X p)) = false := by
  have key : ∀ k p, p + k = X.2 → rnF P X k p = X.2 ∨ P (cb X (rnF P X k p)) = false := by
    intro k
    induction k with
    | zero => intro p hp; left; exact hp
    | succ k ih =>
      intro p hp
      show (if P (cb X p) = true then rnF P X k (p + 1) else p) = X.2 ∨ P (cb X (if P (cb X p) = true then rnF P X k (p + 1) else p)) = false
      cases q : P (cb X p) with
      | true => rw [if_pos rfl]; exact ih (p + 1) (by omega)
      | false => rw [if_neg (by decide)]; exact Or.inr q
  exact key (X.2 - p) p (by omega)
end TK
def isL (c : Nat) : Bool := decide (97 ≤ c ∧ c ≤ 122)
def isD (c : Nat) : Bool := decide (48 ≤ c ∧ c ≤ 57)
def isS (c : Nat) : Bool := decide (c = 32)
/-- the token that begins at a: its sort (0 end, 1 word, 2 whole, 3 semicolon, 4 comma, 5 none), the byte behind it, what it says -/
def tS (X : TX) (a : Nat) : Nat := if X.2 ≤ a then 0 else if isL (cb X a) = true then (if rn isL X a - a ≤ 8 then 1 else 5) else if isD (cb X a) = true then (if rn isD X a - a ≤ 3 then 2 else 5) else if cb X a = 59 then 3 else if cb X a = 44 then 4 else 5
def tE (X : TX) (a : Nat) : Nat := if X.2 ≤ a then a else if isL (cb X a) = true then rn isL X a else if isD (cb X a) = true then rn isD X a else a + 1
def tN (X : TX) (a : Nat) : Nat := rv isD 10 48 X a 0
def tW (X : TX) (a : Nat) : Nat := rv isL 32 96 X a 0
def nxt (X : TX) (a : Nat) : Nat := rn isS X (tE X a)
theorem tE_b {X : TX} {a : Nat} (h : a ≤ X.2) : a ≤ tE X a ∧ tE X a ≤ X.2 ∧ (a < X.2 → a < tE X a) := by
  unfold tE
  have b1 := rn_b (P := isL) h
  have b2 := rn_b (P := isD) h
  by_cases q : X.2 ≤ a
  · rw [if_pos q]; omega
  · rw [if_neg q]
    by_cases q1 : isL (cb X a) = true
    · rw [if_pos q1]
      have := rn_t (by omega) q1
      have b3 := rn_b (P := isL) (X := X) (p := a + 1) (by omega)
      omega
    · rw [if_neg q1]
      by_cases q2 : isD (cb X a) = true
      · rw [if_pos q2]
        have := rn_t (by omega) q2
        have b3 := rn_b (P := isD) (X := X) (p := a + 1) (by omega)
        omega
      · rw [if_neg q2]; omega
theorem nxt_b {X : TX} {a : Nat} (h : a ≤ X.2) : a ≤ nxt X a ∧ nxt X a ≤ X.2 ∧ (a < X.2 → a < nxt X a) := by
  have := tE_b h
  have := rn_b (P := isS) (X := X) (p := tE X a) (by omega)
  unfold nxt
  omega
theorem tS_le {X : TX} {a : Nat} : tS X a ≤ 5 := by
  unfold tS
  repeat' split
  all_goals omega
theorem tS_lt {X : TX} {a : Nat} (h : tS X a ≠ 0) : a < X.2 := by
  rcases Nat.lt_or_ge a X.2 with q | q
  · exact q
  · exact absurd (by unfold tS; rw [if_pos q]) h
section TT
variable {X : TX} {i : Nat}
theorem tS_L (g : i < X.2) (q : isL (cb X i) = true) : tS X i = (if rn isL X i - i ≤ 8 then 1 else 5) ∧ tE X i = rn isL X i := by
  constructor
  · unfold tS; rw [if_neg (Nat.not_le.mpr g), if_pos q]
  · unfold tE; rw [if_neg (Nat.not_le.mpr g), if_pos q]
theorem tS_D (g : i < X.2) (q1 : isL (cb X i) = false) (q2 : isD (cb X i) = true) : tS X i = (if rn isD X i - i ≤ 3 then 2 else 5) ∧ tE X i = rn isD X i := by
  constructor
  · unfold tS; rw [if_neg (Nat.not_le.mpr g), if_neg (by rw [q1]; decide), if_pos q2]
  · unfold tE; rw [if_neg (Nat.not_le.mpr g), if_neg (by rw [q1]; decide), if_pos q2]
theorem tS_O (g : i < X.2) (q1 : isL (cb X i) = false) (q2 : isD (cb X i) = false) : tS X i = (if cb X i = 59 then 3 else if cb X i = 44 then 4 else 5) ∧ tE X i = i + 1 := by
  constructor
  · unfold tS; rw [if_neg (Nat.not_le.mpr g), if_neg (by rw [q1]; decide), if_neg (by rw [q2]; decide)]
  · unfold tE; rw [if_neg (Nat.not_le.mpr g), if_neg (by rw [q1]; decide), if_neg (by rw [q2]; decide)]
theorem tS_E (g : X.2 ≤ i) : tS X i = 0 ∧ tE X i = i := by
  constructor
  · unfold tS; rw [if_pos g]
  · unfold tE; rw [if_pos g]
end TT
/-! the two packings of a word -/
def cvF : Nat → Nat → Nat
  | 0, _ => 0
  | k + 1, n => if n = 0 then 0 else cvF k (n / 32) * 256 + (n % 32 + 96)
def vcF : Nat → Nat → Nat
  | 0, _ => 0
  | k + 1, n => if n = 0 then 0 else vcF k (n / 256) * 32 + (n % 256 - 96)
def cv (n : Nat) : Nat := cvF 8 n
theorem cvF_u (k n : Nat) : cvF (k + 1) n = if n = 0 then 0 else cvF k (n / 32) * 256 + (n % 32 + 96) := rfl
theorem cvF_z (k : Nat) : cvF k 0 = 0 := by cases k <;> rfl
theorem vc_cv (k n : Nat) (h : n < 32 ^ k) : vcF k (cvF k n) = n := by
  induction k generalizing n with
  | zero => show 0 = n; rw [Nat.pow_zero] at h; omega
  | succ k ih =>
    by_cases q : n = 0
    · subst q; rfl
    · have e : cvF (k + 1) n = cvF k (n / 32) * 256 + (n % 32 + 96) := if_neg q
      rw [e]
      show (if _ = 0 then 0 else vcF k ((cvF k (n / 32) * 256 + (n % 32 + 96)) / 256) * 32 + ((cvF k (n / 32) * 256 + (n % 32 + 96)) % 256 - 96)) = n
      rw [if_neg (by omega), show (cvF k (n / 32) * 256 + (n % 32 + 96)) / 256 = cvF k (n / 32) by omega, ih (n / 32) (by rw [Nat.pow_succ] at h; omega)]
      omega
theorem cvF_b (k n : Nat) : cvF (k + 1) n < 128 * 256 ^ k := by
  induction k generalizing n with
  | zero =>
    show (if n = 0 then 0 else cvF 0 (n / 32) * 256 + (n % 32 + 96)) < _
    have : cvF 0 (n / 32) = 0 := rfl
    rw [this, Nat.pow_zero]
    split <;> omega
  | succ k ih =>
    show (if n = 0 then 0 else cvF (k + 1) (n / 32) * 256 + (n % 32 + 96)) < _
    have := ih (n / 32)
    rw [Nat.pow_succ]
    split <;> omega
theorem cv_b (n : Nat) : cv n < 2 ^ 63 := cvF_b 7 n
theorem cv_inj {a b : Nat} (ha : a < 32 ^ 8) (hb : b < 32 ^ 8) : lN (cv a) = lN (cv b) ↔ a = b := by
  rw [pk_lEQ (cv_b a) (cv_b b)]
  constructor
  · intro e
    have h1 := vc_cv 8 a ha
    have h2 := vc_cv 8 b hb
    rw [← h1, ← h2]
    exact congrArg (vcF 8) e
  · intro e; rw [e]
theorem cvF_s (k n : Nat) (h : n < 32 ^ k) : cvF (k + 1) n = cvF k n := by
  induction k generalizing n with
  | zero =>
    rw [Nat.pow_zero] at h
    have : n = 0 := by omega
    subst this
    rfl
  | succ k ih =>
    by_cases q : n = 0
    · subst q
      rw [cvF_z, cvF_z]
    · rw [cvF_u (k + 1) n, cvF_u k n, ih (n / 32) (by rw [Nat.pow_succ] at h; omega)]
theorem cv_d {v d : Nat} (hv : v < 32 ^ 7) (h1 : 1 ≤ d) (h2 : d < 32) : cv (32 * v + d) = 256 * cv v + (d + 96) := by
  unfold cv
  rw [cvF_u 7 (32 * v + d), if_neg (by omega), show (32 * v + d) / 32 = v by omega, show (32 * v + d) % 32 = d by omega]
  rw [show cvF 8 v = cvF 7 v from cvF_s 7 v hv]
  omega
theorem isL_r {c : Nat} (h : isL c = true) : 97 ≤ c ∧ c ≤ 122 := of_decide_eq_true h
theorem isD_r {c : Nat} (h : isD c = true) : 48 ≤ c ∧ c ≤ 57 := of_decide_eq_true h
/-- the class's word is the reference's, packed otherwise -/
theorem rv_cv {X : TX} : ∀ n p v k, X.2 - p = n → v < 32 ^ k → k + (rn isL X p - p) ≤ 8 → rv isL 256 0 X p (cv v) = cv (rv isL 32 96 X p v) ∧ rv isL 32 96 X p v < 32 ^ 8 := by
  intro n
  induction n with
  | zero =>
    intro p v k hn hv hk
    rw [rv_e (by omega), rv_e (by omega)]
    exact ⟨rfl, Nat.lt_of_lt_of_le hv (Nat.pow_le_pow_right (by decide) (by omega))⟩
  | succ n ih =>
    intro p v k hn hv hk
    cases q : isL (cb X p) with
    | false =>
      rw [rv_f q, rv_f q]
      exact ⟨rfl, Nat.lt_of_lt_of_le hv (Nat.pow_le_pow_right (by decide) (by omega))⟩
    | true =>
      have hc := isL_r q
      have e := rn_t (P := isL) (X := X) (p := p) (by omega) q
      have b := rn_b (P := isL) (X := X) (p := p + 1) (by omega)
      have hv7 : v < 32 ^ 7 := Nat.lt_of_lt_of_le hv (Nat.pow_le_pow_right (by decide) (by omega))
      rw [rv_t (by omega) q, rv_t (by omega) q]
      have c1 := cv_d (v := v) (d := cb X p - 96) hv7 (by omega) (by omega)
      rw [show 256 * cv v + (cb X p - 0) = cv (32 * v + (cb X p - 96)) by rw [c1]; omega]
      exact ih (p + 1) _ (k + 1) (by omega) (by rw [Nat.pow_succ]; omega) (by omega)
theorem tW_cv {X : TX} {a : Nat} (h : tS X a = 1) : rv isL 256 0 X a 0 = cv (tW X a) ∧ tW X a < 32 ^ 8 := by
  have ha : a < X.2 := tS_lt (by omega)
  have hl : rn isL X a - a ≤ 8 := by
    unfold tS at h
    rw [if_neg (by omega)] at h
    split at h
    · split at h
      · assumption
      · cases h
    · repeat' split at h
      all_goals cases h
  exact rv_cv (X.2 - a) a 0 0 rfl (by decide) (by omega)
theorem tN_b {X : TX} : ∀ n p v k, X.2 - p = n → v < 10 ^ k → k + (rn isD X p - p) ≤ 3 → rv isD 10 48 X p v < 1000 := by
  intro n
  induction n with
  | zero =>
    intro p v k hn hv hk
    rw [rv_e (by omega)]
    exact Nat.lt_of_lt_of_le hv (Nat.pow_le_pow_right (n := 10) (j := 3) (by decide) (by omega))
  | succ n ih =>
    intro p v k hn hv hk
    cases q : isD (cb X p) with
    | false =>
      rw [rv_f q]
      exact Nat.lt_of_lt_of_le hv (Nat.pow_le_pow_right (n := 10) (j := 3) (by decide) (by omega))
    | true =>
      have hc := isD_r q
      have e := rn_t (P := isD) (X := X) (p := p) (by omega) q
      have b := rn_b (P := isD) (X := X) (p := p + 1) (by omega)
      rw [rv_t (by omega) q]
      exact ih (p + 1) _ (k + 1) (by omega) (by rw [Nat.pow_succ]; omega) (by omega)
theorem tN_lt {X : TX} {a : Nat} (h : tS X a = 2) : tN X a < 1000 := by
  have ha : a < X.2 := tS_lt (by omega)
  have hl : rn isD X a - a ≤ 3 := by
    unfold tS at h
    rw [if_neg (by omega)] at h
    split at h
    · repeat' split at h
      all_goals cases h
    · split at h
      · split at h
        · assumption
        · cases h
      · repeat' split at h
        all_goals cases h
  exact tN_b (X.2 - a) a 0 0 rfl (by decide) (by omega)
theorem sh8w (n c : Nat) (hc : c < 128) : (lN n <<< ((8 : Int32).toInt64 &&& 63)) ||| (nI c).toInt64 = lN (256 * n + c) := by
  rw [nI_l (by omega)]
  apply Int64.toBitVec_inj.mp
  show (BitVec.ofNat 64 n <<< (8 : BitVec 64)) ||| BitVec.ofNat 64 c = BitVec.ofNat 64 (256 * n + c)
  apply BitVec.eq_of_toNat_eq
  rw [BitVec.toNat_or]
  show (BitVec.ofNat 64 n <<< 8).toNat ||| _ = _
  rw [BitVec.toNat_shiftLeft, BitVec.toNat_ofNat, BitVec.toNat_ofNat, BitVec.toNat_ofNat, Nat.mod_eq_of_lt (a := c) (by omega)]
  have e1 : (n % 2 ^ 64) <<< 8 % 2 ^ 64 = (n % 2 ^ 56) <<< 8 := by
    rw [Nat.shiftLeft_eq, Nat.shiftLeft_eq]
    omega
  rw [e1, ← Nat.shiftLeft_add_eq_or_of_lt (by omega), Nat.shiftLeft_eq]
  omega
