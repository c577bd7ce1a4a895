/-! THE PURE LAYER: what the printed functions compute. Ground rows -/
theorem zb0 : zb 0 := Or.inl rfl
theorem zb1 : zb 1 := Or.inr rfl
theorem ai_of {h : Hp} {a t N n : Nat} (hs : hS h a = some (.inr (t, N))) (hn : n < N) (hN : N < 2 ^ 31) : ai h a t (nI n) := ⟨N, hs, vp_in_nI hn hN⟩
theorem lp_s {σ ρ : Type} {step : (σ → Hp → Option ρ) → σ → Hp → Option ρ} {n : Nat} {s : σ} {h : Hp} : lp step (n + 1) s h = step (lp step n) s h := rfl
/-- a loop, by a measure that falls -/
theorem lp_ind {σ ρ : Type} {step : (σ → Hp → Option ρ) → σ → Hp → Option ρ} (μ : σ → Hp → Nat) (P : σ → Hp → Option ρ → Prop) (hs : ∀ k s h, (∀ s' h', μ s' h' < μ s h → P s' h' (k s' h')) → P s h (step k s h)) (n : Nat) : ∀ s h, μ s h < n → P s h (lp step n s h) := by
  induction n with
  | zero => intro s h q; exact absurd q (Nat.not_lt_zero _)
  | succ n ih => intro s h q; exact hs _ s h (fun s' h' q' => ih s' h' (by omega))
theorem FU_val : FU = 10000 := rfl
/-- a wheel's tooth is gone, as both sides ask it -/
def gb (g : Int64) (t : Nat) : Bool := decide (lg_cmp ((g >>> ((nI t).toInt64 &&& 63)) &&& 1) 1 = 0)
/-- the tooth reached by b steps on a wheel of n teeth -/
def nx (n : Nat) (fw : Bool) (b t : Nat) : Nat := if fw = true then (if t + b < n then t + b else t + b - n) else (if b ≤ t then t - b else t + n - b)
def sg (fw : Bool) : Int32 := if fw = true then 1 else -1
theorem nx_lt {n b t : Nat} {fw : Bool} (ht : t < n) (hb : b < n) : nx n fw b t < n := by
  unfold nx
  repeat' split
  all_goals omega
/-- where it rests: at most two teeth are gone -/
def rs (n : Nat) (g : Int64) (fw : Bool) : Nat → Nat → Nat
  | 0, t => t
  | k + 1, t => if gb g t = true then rs n g fw k (nx n fw 1 t) else t
section PW
variable {h : Hp} {w : Nat}
theorem e_W_lacks (hs : hS h w = some (.inl 3)) (t : Nat) : f_W_lacks w (nI t) h = some (if gb (hL h w 5) t = true then 1 else 0, h) := by
  unfold f_W_lacks gb
  simp only [lt, gd_pos hs, gd_pos zb0, gd_pos zb1]
  by_cases q : lg_cmp ((hL h w 5 >>> ((nI t).toInt64 &&& 63)) &&& 1) 1 = 0
  · rw [if_pos q, if_pos (decide_eq_true q)]
  · rw [if_neg q, if_neg (by simp [q])]
theorem sg_t : sg true = 1 := rfl
theorem sg_f : sg false = -1 := rfl
theorem i_neg {t b n : Nat} (hb : b ≤ t + n) : nI t + -1 * nI b + nI n = nI (t + n - b) := by
  rw [Int32.neg_mul, Int32.one_mul, ← Int32.sub_eq_add_neg, ← pk_sub hb, ← nI_add]
  rw [Int32.sub_eq_add_neg, Int32.sub_eq_add_neg, Int32.add_assoc, Int32.add_assoc, Int32.add_comm (-nI b)]
theorem i_sub {t b : Nat} : nI t + -1 * nI b = nI t - nI b := by
  rw [Int32.neg_mul, Int32.one_mul, ← Int32.sub_eq_add_neg]
theorem e_W_landing {n t b : Nat} (hs : hS h w = some (.inl 3)) (hn : hI h w 1 = nI n) (hn2 : n ≤ 60) (ht : t < n) (hb : b < n) (fw : Bool) : f_W_landing w (nI t) (nI b) (sg fw) h = some (nI (nx n fw b t), h) := by
  unfold f_W_landing
  simp only [lt, gd_pos hs, hn]
  cases fw with
  | true =>
    rw [sg_t, Int32.one_mul, nI_add, if_pos (nI_pos' (by omega))]
    unfold nx
    rw [if_pos rfl]
    by_cases q : t + b < n
    · rw [if_pos (nI_lt q (by omega)), if_pos q]
    · rw [if_neg (nI_nlt (by omega) (by omega)), if_neg q, pk_sub (by omega)]
  | false =>
    rw [sg_f]
    show _ = some (nI (if b ≤ t then t - b else t + n - b), h)
    by_cases q : b ≤ t
    · rw [i_sub, pk_sub q, if_pos (nI_pos' (by omega)), if_pos q, if_pos (nI_lt (by omega) (by omega))]
    · rw [if_neg (by rw [i_sub]; exact Int32.not_le.mpr (pk_sneg (by omega) (by omega))), if_neg q, i_neg (by omega)]
end PW
