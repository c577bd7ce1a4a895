/-! a wheel, on both sides -/
theorem nx_f1 {n t : Nat} (h : t + 1 < n) : nx n true 1 t = t + 1 := by
  unfold nx
  rw [if_pos rfl, if_pos h]
theorem nx_f0 {n t : Nat} (ht : t < n) (h : ¬ t + 1 < n) : nx n true 1 t = 0 := by
  unfold nx
  rw [if_pos rfl, if_neg h]
  omega
theorem nx_b1 {n t : Nat} (h : 1 ≤ t) : nx n false 1 t = t - 1 := by
  show (if 1 ≤ t then t - 1 else t + n - 1) = _
  rw [if_pos h]
theorem nx_b0 {n t : Nat} (h : ¬ 1 ≤ t) : nx n false 1 t = n - 1 := by
  show (if 1 ≤ t then t - 1 else t + n - 1) = _
  rw [if_neg h]
  omega
section PW
variable {h : Hp} {w : Nat}
theorem e_W_way {k : Nat} (hs : hS h w = some (.inl 3)) (hk : hI h w 0 = nI k) (hk3 : k ≤ 3) : f_W_way w h = some (sg (decide (k ≠ 1)), h) := by
  unfold f_W_way
  simp only [lt, gd_pos hs, hk]
  by_cases q : k = 1
  · rw [q, if_pos (by decide)]
    rfl
  · rw [if_neg (show ¬ nI k = (1 : Int32) from fun e => q ((nI_eq (by omega) (by omega)).mp e)), show decide (k ≠ 1) = true from decide_eq_true q]
    rfl
theorem e_W_hasTooth {n : Nat} (hs : hS h w = some (.inl 3)) (hn : hI h w 1 = nI n) (v : Int32) : f_W_hasTooth w v h = some (if 0 ≤ v ∧ v < nI n then 1 else 0, h) := by
  unfold f_W_hasTooth
  simp only [lt, gd_pos hs, hn, gd_pos zb0, gd_pos zb1]
  by_cases q : v < 0
  · rw [if_pos q, if_neg (fun e => absurd e.1 (Int32.not_le.mpr q))]
  · rw [if_neg q]
    by_cases q2 : nI n ≤ v
    · rw [if_pos q2, if_neg (fun e => absurd e.2 (Int32.not_lt.mpr q2))]
    · rw [if_neg q2, if_pos ⟨Int32.not_lt.mp q, Int32.not_le.mp q2⟩]
/-- it goes on that day, with so much oil -/
def gon (k d o : Nat) : Bool := if k = 2 then decide (0 < o) else if k = 3 then decide (d % 2 = 0) else true
def bI (b : Bool) : Int32 := if b = true then 1 else 0
theorem e_W_goesOn {k d o : Nat} (hs : hS h w = some (.inl 3)) (hk : hI h w 0 = nI k) (hk3 : k ≤ 3) (hd : d < 2 ^ 31) (ho : o < 2 ^ 31) : f_W_goesOn w (nI d) (nI o) h = some (bI (gon k d o), h) := by
  unfold f_W_goesOn b_W_goesOn_32 gon
  simp only [lt, gd_pos hs, hk, gd_pos zb0, gd_pos zb1]
  by_cases q : k = 2
  · rw [if_pos q, q, if_pos (by decide)]
    by_cases q2 : 0 < o
    · rw [if_neg (nI_nle q2 ho), decide_eq_true q2]
      rfl
    · have e : o = 0 := by omega
      rw [e, if_pos (by decide)]
      rfl
  · rw [if_neg q, if_neg (show ¬ nI k = (2 : Int32) from fun e => q ((nI_eq (by omega) (by omega)).mp e))]
    by_cases q2 : k = 3
    · rw [if_pos q2, q2, if_pos (by decide), pk_andN (by omega) (m := 1) 1 (by decide)]
      by_cases q3 : d % 2 = 0
      · rw [decide_eq_true q3, if_pos (by rw [show d % 2 ^ 1 = d % 2 from rfl, q3]; decide)]
        rfl
      · rw [decide_eq_false q3, if_neg (by rw [show d % 2 ^ 1 = 1 by omega]; decide)]
        rfl
    · rw [if_neg q2, if_neg (show ¬ nI k = (3 : Int32) from fun e => q2 ((nI_eq (by omega) (by omega)).mp e))]
      rfl
theorem e_W_resting {n t : Nat} {g : Int64} (hs : hS h w = some (.inl 3)) (hn : hI h w 1 = nI n) (hg : hL h w 5 = g) (hn2 : n ≤ 60) (ht : t < n) (fw : Bool) : f_W_resting w (nI t) (sg fw) h = some (nI (rs n g fw 2 t), h) := by
  have key : ∀ k, k ≤ 2 → ∀ t m, t < n → l_W_resting_5 (m + k + 1) (w, sg fw, nI t, nI (2 - k)) h = some (nI (rs n g fw k t), h) := by
    intro k
    induction k with
    | zero =>
      intro _ t m ht
      show b_W_resting_5 (l_W_resting_5 m) w (sg fw) (nI t) (nI 2) h = _
      unfold b_W_resting_5
      rw [if_pos (by decide)]
      rfl
    | succ k ih =>
      intro hk t m ht
      show b_W_resting_5 (l_W_resting_5 (m + k + 1)) w (sg fw) (nI t) (nI (2 - (k + 1))) h = some (nI (if gb g t = true then rs n g fw k (nx n fw 1 t) else t), h)
      have st : nI (2 - (k + 1)) + 1 = nI (2 - k) := by
        rw [nI_1]
        congr 1
        omega
      unfold b_W_resting_5 b_W_resting_52
      rw [if_neg (by have e : k = 0 ∨ k = 1 := by omega
                     rcases e with rfl | rfl <;> decide)]
      simp only [lt, gd_pos hs, hn, hg, st]
      by_cases q : lg_cmp ((g >>> ((nI t).toInt64 &&& 63)) &&& 1) 1 = 0
      · rw [if_pos q, if_pos (show gb g t = true from decide_eq_true q)]
        cases fw with
        | true =>
          rw [sg_t, nI_1, if_pos (nI_pos' (by omega))]
          by_cases q2 : t + 1 < n
          · rw [if_pos (nI_lt q2 (by omega)), nx_f1 q2]
            exact ih (by omega) (t + 1) m q2
          · rw [if_neg (nI_nlt (by omega) (by omega)), nx_f0 ht q2]
            exact ih (by omega) 0 m (by omega)
        | false =>
          rw [sg_f]
          by_cases q2 : 1 ≤ t
          · have e : nI t + -1 = nI (t - 1) := by
              have e2 := pk_m1 (t - 1)
              rw [show t - 1 + 1 = t by omega] at e2
              exact e2
            rw [e, if_pos (nI_pos' (by omega)), if_pos (nI_lt (by omega) (by omega)), nx_b1 q2]
            exact ih (by omega) (t - 1) m (by omega)
          · have e : t = 0 := by omega
            subst e
            have e3 : nI n - 1 = nI (n - 1) := by
              have e2 := nI_pred (n - 1)
              rw [show n - 1 + 1 = n by omega] at e2
              exact e2
            rw [if_neg (by decide), e3, nx_b0 q2]
            exact ih (by omega) (n - 1) m (by omega)
      · rw [if_neg q, if_neg (show ¬ gb g t = true from fun e => q (of_decide_eq_true e))]
  exact key 2 (Nat.le_refl _) t 9997 ht
end PW
/-! the same wheel at the reference -/
def sb (fw : Bool) (b : Nat) : Int32 := if fw = true then nI b else -nI b
theorem irm_nI {a d : Nat} (ha : a < 2 ^ 31) (h0 : 0 < d) (hd : d < 2 ^ 31) : irm (nI a) (nI d) = nI (a % d) := pk_rem ha h0 hd
theorem md_1 {a n : Nat} (h : a < n) : (a + n) % n = a := by rw [Nat.add_mod_right, Nat.mod_eq_of_lt h]
theorem md_2 {a n : Nat} (h1 : n ≤ a) (h2 : a - n < n) : a % n = a - n := by rw [Nat.mod_eq_sub_mod h1, Nat.mod_eq_of_lt h2]
theorem nx_md {n t b : Nat} (ht : t < n) (hb : b < n) : nx n true b t = (t + b + n) % n := by
  unfold nx
  rw [if_pos rfl, Nat.add_mod_right]
  by_cases q : t + b < n
  · rw [if_pos q, Nat.mod_eq_of_lt q]
  · rw [if_neg q, md_2 (by omega) (by omega)]
theorem nx_mb {n t b : Nat} (ht : t < n) (hb : b < n) : nx n false b t = (t + n - b) % n := by
  show (if b ≤ t then t - b else t + n - b) = _
  by_cases q : b ≤ t
  · rw [if_pos q, show t + n - b = t - b + n by omega, md_1 (by omega)]
  · rw [if_neg q, Nat.mod_eq_of_lt (by omega)]
theorem i_neg2 {t b n : Nat} (hb : b ≤ t + n) : nI t + -nI b + nI n = nI (t + n - b) := by
  have e := i_neg (t := t) hb
  rw [Int32.neg_mul, Int32.one_mul] at e
  exact e
theorem sb_go {n t b : Nat} (fw : Bool) (ht : t < n) (hb : b < n) (hn : n ≤ 60) : irm (nI t + sb fw b + nI n) (nI n) = nI (nx n fw b t) := by
  cases fw with
  | true =>
    show irm (nI t + nI b + nI n) (nI n) = _
    rw [nI_add, nI_add, irm_nI (by omega) (by omega) (by omega), nx_md ht hb]
  | false =>
    show irm (nI t + -nI b + nI n) (nI n) = _
    rw [i_neg2 (by omega), irm_nI (by omega) (by omega) (by omega), nx_mb ht hb]
theorem sb_le {b : Nat} (h1 : 1 ≤ b) (h2 : b < 100) (fw : Bool) : (sb fw b ≤ 0) ↔ fw = false := by
  cases fw with
  | true => exact ⟨fun e => absurd e (nI_nle (by omega) (by omega)), fun e => by cases e⟩
  | false =>
    refine ⟨fun _ => rfl, fun _ => ?_⟩
    show -nI b ≤ 0
    have e := pk_sneg (a := 0) (b := b) (by omega) (by omega)
    have e2 : nI 0 - nI b = -nI b := by
      rw [nI_0, Int32.sub_eq_add_neg, Int32.zero_add]
    rw [e2] at e
    exact Int32.le_of_lt e
theorem e_m_goes {h : Hp} {m n t b : Nat} {g : Int64} (hs : hS h m = some (.inl 11)) (hn : n ≤ 60) (ht : t < n) (hb1 : 1 ≤ b) (hb : b < n) (fw : Bool) (hgd : gb g (rs n g fw 2 (nx n fw b t)) = false) : f_m_goes m (nI n) g (nI t) (sb fw b) h = some (nI (rs n g fw 2 (nx n fw b t)), uI h m 21 (bI (gb g (nx n fw b t)))) := by
  have key : ∀ k, k ≤ 2 → ∀ t f (h : Hp), hS h m = some (.inl 11) → t < n → gb g (rs n g fw k t) = false → l_m_goes_16 (f + k + 1) (m, nI n, g, sb fw b, nI t) h = some (nI (rs n g fw k t), if gb g t = true then uI h m 21 1 else h) := by
    intro k
    induction k with
    | zero =>
      intro _ t f h hs ht hg
      have hg : gb g t = false := hg
      show b_m_goes_16 (l_m_goes_16 f) m (nI n) g (sb fw b) (nI t) h = some (nI t, _)
      unfold b_m_goes_16
      rw [if_neg (of_decide_eq_false hg), hg]
      rfl
    | succ k ih =>
      intro hk t f h hs ht hg
      show b_m_goes_16 (l_m_goes_16 (f + k + 1)) m (nI n) g (sb fw b) (nI t) h = some (nI (if gb g t = true then rs n g fw k (nx n fw 1 t) else t), _)
      have hg : gb g (if gb g t = true then rs n g fw k (nx n fw 1 t) else t) = false := hg
      unfold b_m_goes_16 b_m_goes_41
      by_cases q : gb g t = true
      · rw [if_pos q] at hg
        rw [if_pos (of_decide_eq_true q), if_pos q, if_pos q]
        have hn0 : ¬ nI n = 0 := nI_ne0 (by omega) (by omega)
        have hs1 : hS (uI h m 21 1) m = some (.inl 11) := hs
        have e := ih (by omega) (nx n fw 1 t) f (uI h m 21 1) hs1 (nx_lt ht (by omega)) hg
        rw [uI_uI, ite_self] at e
        cases fw with
        | true =>
          rw [if_neg (fun e => by cases (sb_le hb1 (by omega) true).mp e), nI_1, gd_pos hn0]
          have e2 : irm (nI (t + 1)) (nI n) = nI (nx n true 1 t) := by
            rw [irm_nI (by omega) (by omega) (by omega), nx_md ht (by omega), Nat.add_mod_right]
          simp only [lt, e2, gd_pos zb1, gd_pos (show zb 1 ∧ hS h m = some (.inl 11) from ⟨zb1, hs⟩)]
          exact e
        | false =>
          have e2 : irm (nI t + (nI n - 1)) (nI n) = nI (nx n false 1 t) := by
            have e3 : nI n - 1 = nI (n - 1) := by
              have e2 := nI_pred (n - 1)
              rw [show n - 1 + 1 = n by omega] at e2
              exact e2
            rw [e3, nI_add, irm_nI (by omega) (by omega) (by omega), nx_mb ht (by omega), show t + (n - 1) = t + n - 1 by omega]
          rw [if_pos ((sb_le hb1 (by omega) false).mpr rfl), gd_pos hn0]
          simp only [lt, e2, gd_pos (show zb 1 ∧ hS h m = some (.inl 11) from ⟨zb1, hs⟩)]
          exact e
      · rw [if_neg (fun e => q (decide_eq_true e)), if_neg q, if_neg q]
  unfold f_m_goes
  rw [sb_go fw ht hb hn, gd_pos (nI_ne0 (by omega) (by omega))]
  simp only [lt, gd_pos (show zb 0 ∧ hS h m = some (.inl 11) from ⟨zb0, hs⟩)]
  have e := key 2 (Nat.le_refl _) (nx n fw b t) 9997 (uI h m 21 0) hs (nx_lt ht hb) hgd
  refine Eq.trans e ?_
  rw [uI_uI]
  cases gb g (nx n fw b t) with
  | true => rfl
  | false => rfl
