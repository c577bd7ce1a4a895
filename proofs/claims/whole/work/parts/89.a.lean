/-! slips by chance: what both sides compute -/
def smN (f : Nat → Nat) : Nat → Nat
  | 0 => 0
  | n + 1 => smN f n + f n
section SM
variable {f g : Nat → Nat}
theorem smN_cg (n : Nat) (h : ∀ i, i < n → f i = g i) : smN f n = smN g n := by
  induction n with
  | zero => rfl
  | succ n ih =>
    show smN f n + f n = smN g n + g n
    rw [ih (fun i hi => h i (by omega)), h n (by omega)]
theorem smN_add (n : Nat) : smN (fun i => f i + g i) n = smN f n + smN g n := by
  induction n with
  | zero => rfl
  | succ n ih =>
    show smN (fun i => f i + g i) n + (f n + g n) = smN f n + f n + (smN g n + g n)
    rw [ih]
    omega
theorem smN_mul (a n : Nat) : smN (fun i => a * f i) n = a * smN f n := by
  induction n with
  | zero => rfl
  | succ n ih =>
    show smN (fun i => a * f i) n + a * f n = a * (smN f n + f n)
    rw [ih, Nat.mul_add]
theorem smN_z (n : Nat) : smN (fun _ => 0) n = 0 := by
  induction n with
  | zero => rfl
  | succ n ih =>
    show smN (fun _ => 0) n + 0 = 0
    rw [ih]
theorem smN_split (a b : Nat) : smN f (a + b) = smN f a + smN (fun i => f (a + i)) b := by
  induction b with
  | zero => rfl
  | succ b ih =>
    show smN f (a + b) + f (a + b) = smN f a + (smN (fun i => f (a + i)) b + f (a + b))
    rw [ih]
    omega
theorem smN_swap (F : Nat → Nat → Nat) (n m : Nat) : smN (fun i => smN (F i) m) n = smN (fun k => smN (fun i => F i k) n) m := by
  induction n with
  | zero => exact (smN_z m).symm
  | succ n ih =>
    show smN (fun i => smN (F i) m) n + smN (F n) m = smN (fun k => smN (fun i => F i k) n + F n k) m
    rw [ih, smN_add]
theorem smN_le (n : Nat) (h : ∀ i, i < n → f i ≤ g i) : smN f n ≤ smN g n := by
  induction n with
  | zero => exact Nat.le_refl _
  | succ n ih => exact Nat.add_le_add (ih (fun i hi => h i (by omega))) (h n (by omega))
/-- a sum in which one part counts -/
theorem smN_one {x n : Nat} (hx : x < n) (φ : Nat → Nat) : smN (fun u => (if x = u then 1 else 0) * φ u) n = φ x := by
  have hz : ∀ k, k ≤ x → smN (fun u => (if x = u then 1 else 0) * φ u) k = 0 := by
    intro k hk
    rw [smN_cg k (g := fun _ => 0) (fun i hi => by rw [if_neg (by omega), Nat.zero_mul]), smN_z]
  obtain ⟨b, rfl⟩ : ∃ b, n = x + 1 + b := ⟨n - (x + 1), by omega⟩
  rw [smN_split]
  show smN (fun u => (if x = u then 1 else 0) * φ u) x + (if x = x then 1 else 0) * φ x + _ = _
  rw [hz x (Nat.le_refl _), if_pos rfl, smN_cg b (g := fun _ => 0) (fun i hi => by rw [if_neg (by omega), Nat.zero_mul]), smN_z]
  omega
end SM
theorem ch_ar (P C K L p q : Nat) (h : p + q = 100) : P * q * (C + K) + P * p * (C + K + L) = 100 * (P * C) + P * (100 * K + p * L) := by
  have e : 100 * (P * C) + P * (100 * K + p * L) = (p + q) * (P * C) + P * ((p + q) * K + p * L) := by rw [h]
  rw [e]
  simp only [Nat.mul_add, Nat.add_mul, Nat.mul_assoc, Nat.mul_comm, Nat.mul_left_comm]
  omega
section CH
variable (A J : Nat → Nat → Nat) (S sJ : Nat → Nat) (p x0 : Nat)
def cx : Nat → Nat → Nat
  | 0, _ => x0
  | i + 1, c => if c.testBit i = true then S (A i (cx i c)) else A i (cx i c)
def cj : Nat → Nat → Nat
  | 0, _ => 0
  | i + 1, c => cj i c + J i (cx A S x0 i c) + if c.testBit i = true then sJ (A i (cx A S x0 i c)) else 0
def cp : Nat → Nat → Nat
  | 0, _ => 1
  | i + 1, c => cp i c * if c.testBit i = true then p else 100 - p
def chE (i : Nat) (φ : Nat → Nat) : Nat := smN (fun c => cp p i c * φ (cx A S x0 i c)) (2 ^ i)
def chJ (i : Nat) : Nat := smN (fun c => cp p i c * cj A J S sJ x0 i c) (2 ^ i)
def ind (t x : Nat) : Nat := if x = t then 1 else 0
theorem c_low (i : Nat) : ∀ k c, k ≤ i → cx A S x0 k (2 ^ i + c) = cx A S x0 k c ∧ cj A J S sJ x0 k (2 ^ i + c) = cj A J S sJ x0 k c ∧ cp p k (2 ^ i + c) = cp p k c := by
  intro k c
  induction k with
  | zero => exact fun _ => ⟨rfl, rfl, rfl⟩
  | succ k ih =>
    intro hk
    obtain ⟨e1, e2, e3⟩ := ih (by omega)
    have e4 : (2 ^ i + c).testBit k = c.testBit k := Nat.testBit_two_pow_add_gt (by omega) c
    refine ⟨?_, ?_, ?_⟩
    · show (if (2 ^ i + c).testBit k = true then S (A k (cx A S x0 k (2 ^ i + c))) else A k (cx A S x0 k (2 ^ i + c))) = _
      rw [e1, e4]
      rfl
    · show cj A J S sJ x0 k (2 ^ i + c) + J k (cx A S x0 k (2 ^ i + c)) + (if (2 ^ i + c).testBit k = true then sJ (A k (cx A S x0 k (2 ^ i + c))) else 0) = _
      rw [e1, e2, e4]
      rfl
    · show cp p k (2 ^ i + c) * (if (2 ^ i + c).testBit k = true then p else 100 - p) = _
      rw [e3, e4]
      rfl
theorem tb_0 {i c : Nat} (h : c < 2 ^ i) : c.testBit i = false := Nat.testBit_lt_two_pow h
theorem tb_1 {i c : Nat} (h : c < 2 ^ i) : (2 ^ i + c).testBit i = true := by
  rw [Nat.testBit_two_pow_add_eq, tb_0 h]
  rfl
theorem chE_s (i : Nat) (φ : Nat → Nat) : chE A S p x0 (i + 1) φ = chE A S p x0 i (fun u => (100 - p) * φ (A i u) + p * φ (S (A i u))) := by
  unfold chE
  rw [Nat.pow_succ, Nat.mul_two, smN_split, ← smN_add]
  refine smN_cg _ (fun c hc => ?_)
  show cp p i c * (if c.testBit i = true then p else 100 - p) * φ (if c.testBit i = true then S (A i (cx A S x0 i c)) else A i (cx A S x0 i c)) + cp p i (2 ^ i + c) * (if (2 ^ i + c).testBit i = true then p else 100 - p) * φ (if (2 ^ i + c).testBit i = true then S (A i (cx A S x0 i (2 ^ i + c))) else A i (cx A S x0 i (2 ^ i + c))) = _
  obtain ⟨e1, -, e3⟩ := c_low A (fun _ _ => 0) S (fun _ => 0) p x0 i i c (Nat.le_refl _)
  rw [tb_0 hc, tb_1 hc, e1, e3, if_neg (by decide), if_neg (by decide), if_pos rfl, if_pos rfl, Nat.mul_add, Nat.mul_assoc, Nat.mul_assoc]
theorem chJ_s (hp : p ≤ 100) (i : Nat) : chJ A J S sJ p x0 (i + 1) = 100 * chJ A J S sJ p x0 i + chE A S p x0 i (fun u => 100 * J i u + p * sJ (A i u)) := by
  unfold chE chJ
  rw [Nat.pow_succ, Nat.mul_two, smN_split, ← smN_add, ← smN_mul, ← smN_add]
  refine smN_cg _ (fun c hc => ?_)
  show cp p i c * (if c.testBit i = true then p else 100 - p) * (cj A J S sJ x0 i c + J i (cx A S x0 i c) + if c.testBit i = true then sJ (A i (cx A S x0 i c)) else 0) + cp p i (2 ^ i + c) * (if (2 ^ i + c).testBit i = true then p else 100 - p) * (cj A J S sJ x0 i (2 ^ i + c) + J i (cx A S x0 i (2 ^ i + c)) + if (2 ^ i + c).testBit i = true then sJ (A i (cx A S x0 i (2 ^ i + c))) else 0) = _
  obtain ⟨e1, e2, e3⟩ := c_low A J S sJ p x0 i i c (Nat.le_refl _)
  rw [tb_0 hc, tb_1 hc, e1, e2, e3, if_neg (by decide), if_neg (by decide), if_pos rfl, if_pos rfl, Nat.add_zero]
  exact ch_ar _ _ _ _ _ _ (by omega)
theorem chE_cg (i : Nat) {φ ψ : Nat → Nat} (n : Nat) (hx : ∀ c, cx A S x0 i c < n) (h : ∀ u, u < n → φ u = ψ u) : chE A S p x0 i φ = chE A S p x0 i ψ := smN_cg _ (fun c _ => by rw [h _ (hx c)])
/-- a mean by its teeth -/
theorem chE_d (i n : Nat) (hx : ∀ c, cx A S x0 i c < n) (φ : Nat → Nat) : chE A S p x0 i φ = smN (fun u => chE A S p x0 i (ind u) * φ u) n := by
  have h1 : smN (fun u => chE A S p x0 i (ind u) * φ u) n = smN (fun u => smN (fun c => cp p i c * ((if cx A S x0 i c = u then 1 else 0) * φ u)) (2 ^ i)) n := by
    refine smN_cg _ (fun u _ => ?_)
    unfold chE
    rw [Nat.mul_comm, ← smN_mul]
    refine smN_cg _ (fun c _ => ?_)
    show φ u * (cp p i c * (if cx A S x0 i c = u then 1 else 0)) = _
    rw [Nat.mul_left_comm, Nat.mul_comm (φ u)]
  rw [h1, ← smN_swap (fun c u => cp p i c * ((if cx A S x0 i c = u then 1 else 0) * φ u))]
  refine smN_cg _ (fun c _ => ?_)
  show _ = smN (fun u => cp p i c * ((if cx A S x0 i c = u then 1 else 0) * φ u)) n
  rw [smN_mul, smN_one (hx c)]
theorem chE_le (hp : p ≤ 100) (B : Nat) (i : Nat) : ∀ φ : Nat → Nat, (∀ u, φ u ≤ B) → chE A S p x0 i φ ≤ B * 100 ^ i := by
  induction i generalizing B with
  | zero =>
    intro φ h
    show 0 + 1 * φ x0 ≤ B * 1
    have := h x0
    omega
  | succ i ih =>
    intro φ h
    rw [chE_s, Nat.pow_succ, Nat.mul_comm (100 ^ i), ← Nat.mul_assoc]
    refine ih (B * 100) _ (fun u => ?_)
    have h1 : (100 - p) * φ (A i u) ≤ (100 - p) * B := Nat.mul_le_mul_left _ (h _)
    have h2 : p * φ (S (A i u)) ≤ p * B := Nat.mul_le_mul_left _ (h _)
    have h3 : (100 - p) * B + p * B = B * 100 := by rw [← Nat.add_mul, show 100 - p + p = 100 by omega, Nat.mul_comm]
    omega
theorem chJ_le (hp : p ≤ 100) (hJ : ∀ i u, J i u ≤ 1) (hs : ∀ u, sJ u ≤ 1) (i : Nat) : chJ A J S sJ p x0 i ≤ 2 * i * 100 ^ i := by
  induction i with
  | zero => exact Nat.le_refl 0
  | succ i ih =>
    have h1 := chE_le A S p x0 hp 200 i (fun u => 100 * J i u + p * sJ (A i u)) (fun u => by
      have a1 := hJ i u
      have a2 : p * sJ (A i u) ≤ p * 1 := Nat.mul_le_mul_left _ (hs _)
      show 100 * J i u + p * sJ (A i u) ≤ 200
      omega)
    rw [chJ_s A J S sJ p x0 hp i, Nat.pow_succ]
    have e : 2 * (i + 1) * (100 ^ i * 100) = 100 * (2 * i * 100 ^ i) + 200 * 100 ^ i := by
      generalize 100 ^ i = z
      rw [Nat.mul_comm z 100, ← Nat.mul_assoc, show 2 * (i + 1) * 100 = 100 * (2 * i) + 200 by omega, Nat.add_mul, Nat.mul_assoc]
    omega
theorem cx_lt {n : Nat} (h0 : x0 < n) (hA : ∀ i u, u < n → A i u < n) (hS : ∀ u, u < n → S u < n) (i c : Nat) : cx A S x0 i c < n := by
  induction i with
  | zero => exact h0
  | succ i ih =>
    show (if c.testBit i = true then S (A i (cx A S x0 i c)) else A i (cx A S x0 i c)) < n
    split
    · exact hS _ (hA _ _ ih)
    · exact hA _ _ ih
end CH
