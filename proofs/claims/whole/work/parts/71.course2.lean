/-! what a course answers -/
theorem ok_dn {σ α : Type} {step : (σ → Hp → Option (α × Hp)) → σ → Hp → Option (α × Hp)} {Q : α → Hp → Prop} (I : Nat → σ → Hp → Prop) (hs : ∀ k μ s h, I μ s h → (∀ μ' s' h', μ' < μ → I μ' s' h' → Ok (k s' h') Q) → Ok (step k s h) Q) (n : Nat) : ∀ μ s h, I μ s h → μ < n → Ok (lp step n s h) Q := by
  induction n with
  | zero => intro μ s h _ q; exact absurd q (Nat.not_lt_zero _)
  | succ n ih => intro μ s h hi q; exact hs _ μ s h hi (fun μ' s' h' hl hi' => ih μ' s' h' hi' (by omega))
theorem neg_dv {k d : Nat} (hk : k < 2 ^ 30) (hd : d < 2 ^ 30) : -nI k / nI d = -nI (k / d) := by
  apply Int32.toInt_inj.mp
  show (-(Int32.ofNat k) / Int32.ofNat d).toInt = (-(Int32.ofNat (k / d))).toInt
  have hkd : k / d ≤ k := Nat.div_le_self _ _
  rw [Int32.toInt_div, Int32.toInt_neg, Int32.toInt_neg, Int32.toInt_ofNat_of_lt (by omega), Int32.toInt_ofNat_of_lt (by omega), Int32.toInt_ofNat_of_lt (by omega)]
  rw [Int.bmod_eq_of_le (n := -(k : Int)) (by omega) (by omega), Int.neg_tdiv, ← Int.ofNat_tdiv]
theorem irm_neg {k d : Nat} (hk : k < 2 ^ 30) (h0 : 0 < d) (hd : d < 2 ^ 30) : irm (-nI k) (nI d) = -nI (k % d) := by
  rw [← pk_rem (a := k) (by omega) h0 (by omega), pk_div (by omega) h0 (by omega)]
  unfold irm
  rw [neg_dv hk hd, Int32.neg_mul, Int32.sub_eq_add_neg, Int32.sub_eq_add_neg, Int32.neg_add]
  exact (Int32.sub_eq_add_neg _ _).symm
def rmd (a b d : Nat) : Nat := if b ≤ a then (a - b) % d else (d - (b - a) % d) % d
theorem sub_neg' {a b : Nat} (h : a ≤ b) : nI a - nI b = -nI (b - a) := by
  rw [← pk_sub h, Int32.neg_sub]
theorem e_B_remainder {h : Hp} {a b d : Nat} (ha : a < 2 ^ 30) (hb : b < 2 ^ 30) (h0 : 0 < d) (hd : d < 2 ^ 30) : f_B_remainder (nI a - nI b) (nI d) h = some (nI (rmd a b d), h) := by
  refine ok_eq ?_
  unfold f_B_remainder rmd
  refine ok_t (nI_lt (a := 0) h0 (by omega)) (ok_gd (nI_ne0 h0 (by omega)) (ok_lt ?_))
  by_cases q : b ≤ a
  · rw [if_pos q, pk_sub q, irm_nI (by omega) h0 (by omega)]
    have := Nat.mod_lt (a - b) h0
    exact ok_t (nI_pos' (by omega)) (ok_ret ⟨rfl, rfl⟩)
  · rw [if_neg q, sub_neg' (by omega), irm_neg (by omega) h0 hd]
    have hm := Nat.mod_lt (b - a) h0
    generalize (b - a) % d = z at hm
    rcases Nat.eq_zero_or_pos z with e | e
    · rw [e]
      refine ok_t (by decide) (ok_ret ⟨?_, rfl⟩)
      rw [Nat.sub_zero, Nat.mod_self]
      decide
    · have e1 : -nI z = nI 0 - nI z := by
        rw [nI_0, Int32.sub_eq_add_neg, Int32.zero_add]
      refine ok_f (by rw [e1]; exact Int32.not_le.mpr (pk_sneg (by omega) e)) (ok_ret ⟨?_, rfl⟩)
      rw [Int32.add_comm, ← Int32.sub_eq_add_neg, pk_sub (by omega), Nat.mod_eq_of_lt (by omega)]
theorem rmd_ge {a b d : Nat} (h : b ≤ a) : rmd a b d = (a - b) % d := if_pos h
section UQ
variable {h : Hp} {u t0 k d o L r n : Nat} {f : Nat → Nat} {J : Nat → Bool}
theorem e_U_goings (Y : LayU h u) (R : RepU h u f J t0 k d o L r) (hk : k ≤ 3) (hn : n < 2 ^ 30) (ho : o < 2 ^ 30) : f_U_goingsUntil u (nI n) h = some (nI (gs k d o n), h) := by
  obtain ⟨y1, y2, y3, y4, y5, y6, y7, y8⟩ := Y
  obtain ⟨ro, rl, r3, r4, r5, r6, r7, rT, rP, rJ⟩ := R
  refine ok_eq ?_
  unfold f_U_goingsUntil gs
  (try unfold QB); (try unfold QM); repeat (first | (with_reducible refine ok_lt ?_) | ((with_reducible refine ok_gd ?_ ?_); first | assumption | exact zb0 | exact zb1 | ((with_reducible apply ai_of) <;> first | assumption | omega | decide) | exact ai_lit (by assumption) (by decide) (by decide) (by decide)) | (refine ok_bR (by assumption) ?_))
  rw [r5, r6, r7]
  refine ok_ieq (b := 2) (by omega) (by decide) (fun c => ?_) (fun c => ?_)
  · (try unfold QB); (try unfold QM); repeat (first | (with_reducible refine ok_lt ?_) | ((with_reducible refine ok_gd ?_ ?_); first | assumption | exact zb0 | exact zb1 | ((with_reducible apply ai_of) <;> first | assumption | omega | decide) | exact ai_lit (by assumption) (by decide) (by decide) (by decide)) | (refine ok_bR (by assumption) ?_))
    rw [if_pos c]
    exact ok_bde (e_min (by omega) (by omega)) (ok_ret ⟨rfl, rfl⟩)
  · (try unfold QB); (try unfold QM); repeat (first | (with_reducible refine ok_lt ?_) | ((with_reducible refine ok_gd ?_ ?_); first | assumption | exact zb0 | exact zb1 | ((with_reducible apply ai_of) <;> first | assumption | omega | decide) | exact ai_lit (by assumption) (by decide) (by decide) (by decide)) | (refine ok_bR (by assumption) ?_))
    rw [if_neg c]
    refine ok_ieq (b := 3) (by omega) (by decide) (fun c2 => ?_) (fun c2 => ?_)
    · (try unfold QB); (try unfold QM); repeat (first | (with_reducible refine ok_lt ?_) | ((with_reducible refine ok_gd ?_ ?_); first | assumption | exact zb0 | exact zb1 | ((with_reducible apply ai_of) <;> first | assumption | omega | decide) | exact ai_lit (by assumption) (by decide) (by decide) (by decide)) | (refine ok_bR (by assumption) ?_))
      rw [if_pos c2]
      refine ok_gd (by decide) (ok_ret ⟨?_, rfl⟩)
      have hx : (if d % 2 = 0 then 1 else 0) ≤ 1 := by split <;> omega
      show (nI n + nI (if d % 2 = 0 then 1 else 0)) / nI 2 = _
      rw [nI_add, pk_div (by omega) (by decide) (by decide)]
    · rw [if_neg c2]
      exact ok_ret ⟨rfl, rfl⟩
theorem e_U_toothOn (Y : LayU h u) (R : RepU h u f J t0 k d o L r) (hk : k ≤ 3) (hn : n < 2 ^ 30) (ho : o < 2 ^ 30) : f_U_toothOn u (nI n) h = some (nI (it f (gs k d o n) t0), h) := by
  have eg := e_U_goings Y R hk hn ho
  obtain ⟨y1, y2, y3, y4, y5, y6, y7, y8⟩ := Y
  obtain ⟨ro, rl, r3, r4, r5, r6, r7, rT, rP, rJ⟩ := R
  have hgl := gs_le (k := k) (d := d) (o := o) (n := n)
  have hrL := ro.1
  refine ok_eq ?_
  unfold f_U_toothOn
  (try unfold QB); (try unfold QM); repeat (first | (with_reducible refine ok_lt ?_) | ((with_reducible refine ok_gd ?_ ?_); first | assumption | exact zb0 | exact zb1 | ((with_reducible apply ai_of) <;> first | assumption | omega | decide) | exact ai_lit (by assumption) (by decide) (by decide) (by decide)) | (refine ok_bR (by assumption) ?_))
  refine ok_bde eg ?_
  (try unfold QB); (try unfold QM); repeat (first | (with_reducible refine ok_lt ?_) | ((with_reducible refine ok_gd ?_ ?_); first | assumption | exact zb0 | exact zb1 | ((with_reducible apply ai_of) <;> first | assumption | omega | decide) | exact ai_lit (by assumption) (by decide) (by decide) (by decide)) | (refine ok_bR (by assumption) ?_))
  rw [r3, r4]
  refine ok_ile (by omega) (by omega) (fun c => ?_) (fun c => ?_)
  · (try unfold QB); (try unfold QM); repeat (first | (with_reducible refine ok_lt ?_) | ((with_reducible refine ok_gd ?_ ?_); first | assumption | exact zb0 | exact zb1 | ((with_reducible apply ai_of) <;> first | assumption | omega | decide) | exact ai_lit (by assumption) (by decide) (by decide) (by decide)) | (refine ok_bR (by assumption) ?_))
    rw [pk_sub (a := L) (by omega)]
    refine ok_bde (e_B_remainder (by omega) (by omega) (by omega) (by omega)) ?_
    have hm := Nat.mod_lt (gs k d o n - r) (show 0 < L - r by omega)
    rw [rmd_ge (by omega), nI_add]
    refine ok_gd (ai_of y5 (by omega) (by decide)) (ok_lt (ok_ret ⟨?_, rfl⟩))
    (try simp (disch := omega) only [nI_clamp, cl0, cl1, cl2, cl3, cl4, cl5, cl6, cl7, cl8])
    rw [rT _ (by omega), ← orb_rd ro _ (by omega)]
  · refine ok_gd (ai_of y5 (by omega) (by decide)) (ok_lt (ok_ret ⟨?_, rfl⟩))
    (try simp (disch := omega) only [nI_clamp, cl0, cl1, cl2, cl3, cl4, cl5, cl6, cl7, cl8])
    rw [rT _ c]
/-- jerks of an orbit come again -/
theorem cnt_sh (ro : Orb f t0 L r) (k : Nat) : cntN (fun a => J (it f a t0)) (L + k) + cntN (fun a => J (it f a t0)) r = cntN (fun a => J (it f a t0)) (r + k) + cntN (fun a => J (it f a t0)) L := by
  induction k with
  | zero => exact Nat.add_comm _ _
  | succ k ih =>
    show cntN _ (L + k) + (if J (it f (L + k) t0) = true then 1 else 0) + _ = cntN _ (r + k) + (if J (it f (r + k) t0) = true then 1 else 0) + _
    rw [orb_sh ro k]
    omega
theorem cnt_mono (P : Nat → Bool) {a b : Nat} (h : a ≤ b) : cntN P a ≤ cntN P b := by
  induction b with
  | zero => rw [show a = 0 by omega]; exact Nat.le_refl _
  | succ b ih =>
    by_cases e : a = b + 1
    · rw [e]
      exact Nat.le_refl _
    · have := ih (by omega)
      show _ ≤ cntN P b + _
      omega
theorem cnt_rd (ro : Orb f t0 L r) (n : Nat) (h : r ≤ n) : cntN (fun a => J (it f a t0)) n = cntN (fun a => J (it f a t0)) (r + (n - r) % (L - r)) + (n - r) / (L - r) * (cntN (fun a => J (it f a t0)) L - cntN (fun a => J (it f a t0)) r) := by
  have hl := ro.1
  have hmo := cnt_mono (fun a => J (it f a t0)) (Nat.le_of_lt hl)
  induction n using Nat.strongRecOn with
  | ind n ih =>
    by_cases q : n < L
    · rw [Nat.mod_eq_of_lt (by omega), Nat.div_eq_of_lt (by omega), show r + (n - r) = n by omega]
      omega
    · have e := cnt_sh (J := J) ro (n - L)
      rw [show L + (n - L) = n by omega] at e
      have g := ih (r + (n - L)) (by omega) (by omega)
      have e2 : (n - r) % (L - r) = (r + (n - L) - r) % (L - r) := by
        rw [Nat.mod_eq_sub_mod (a := n - r) (by omega)]
        congr 1
        omega
      have e3 : (n - r) / (L - r) = (r + (n - L) - r) / (L - r) + 1 := by
        rw [Nat.div_eq_sub_div (by omega) (by omega)]
        congr 2
        omega
      rw [e2, e3, Nat.add_mul, Nat.one_mul]
      omega
theorem e_U_jerksUntil (Y : LayU h u) (R : RepU h u f J t0 k d o L r) (hk : k ≤ 3) (hn : n ≤ 5000) (ho : o < 2 ^ 30) : f_U_jerksUntil u (nI n) h = some (nI (cntN (fun a => J (it f a t0)) (gs k d o n)), h) := by
  have eg := e_U_goings (n := n) Y R hk (by omega) ho
  obtain ⟨y1, y2, y3, y4, y5, y6, y7, y8⟩ := Y
  obtain ⟨ro, rl, r3, r4, r5, r6, r7, rT, rP, rJ⟩ := R
  have hgl := gs_le (k := k) (d := d) (o := o) (n := n)
  have hrL := ro.1
  refine ok_eq ?_
  unfold f_U_jerksUntil b_U_jerksUntil_25
  (try unfold QB); (try unfold QM); repeat (first | (with_reducible refine ok_lt ?_) | ((with_reducible refine ok_gd ?_ ?_); first | assumption | exact zb0 | exact zb1 | ((with_reducible apply ai_of) <;> first | assumption | omega | decide) | exact ai_lit (by assumption) (by decide) (by decide) (by decide)) | (refine ok_bR (by assumption) ?_))
  refine ok_bde eg ?_
  generalize gs k d o n = G at hgl
  (try unfold QB); (try unfold QM); repeat (first | (with_reducible refine ok_lt ?_) | ((with_reducible refine ok_gd ?_ ?_); first | assumption | exact zb0 | exact zb1 | ((with_reducible apply ai_of) <;> first | assumption | omega | decide) | exact ai_lit (by assumption) (by decide) (by decide) (by decide)) | (refine ok_bR (by assumption) ?_))
  rw [r3, r4]
  refine ok_ile (by omega) (by omega) (fun c => ?_) (fun c => ?_)
  · (try unfold QB); (try unfold QM); repeat (first | (with_reducible refine ok_lt ?_) | ((with_reducible refine ok_gd ?_ ?_); first | assumption | exact zb0 | exact zb1 | ((with_reducible apply ai_of) <;> first | assumption | omega | decide) | exact ai_lit (by assumption) (by decide) (by decide) (by decide)) | (refine ok_bR (by assumption) ?_))
    refine ok_bde (e_min (by omega) (by omega)) ?_
    rw [Nat.min_eq_left c]
    refine ok_gd (ai_of y7 (by omega) (by decide)) (ok_lt (ok_ret ⟨?_, rfl⟩))
    (try simp (disch := omega) only [nI_clamp, cl0, cl1, cl2, cl3, cl4, cl5, cl6, cl7, cl8])
    rw [rJ _ c]
  · (try unfold QB); (try unfold QM); repeat (first | (with_reducible refine ok_lt ?_) | ((with_reducible refine ok_gd ?_ ?_); first | assumption | exact zb0 | exact zb1 | ((with_reducible apply ai_of) <;> first | assumption | omega | decide) | exact ai_lit (by assumption) (by decide) (by decide) (by decide)) | (refine ok_bR (by assumption) ?_))
    refine ok_t (nI_lt hrL (by omega)) ?_
    (try unfold QB); (try unfold QM); repeat (first | (with_reducible refine ok_lt ?_) | ((with_reducible refine ok_gd ?_ ?_); first | assumption | exact zb0 | exact zb1 | ((with_reducible apply ai_of) <;> first | assumption | omega | decide) | exact ai_lit (by assumption) (by decide) (by decide) (by decide)) | (refine ok_bR (by assumption) ?_))
    have hp := Nat.mod_lt (G - r) (show 0 < L - r by omega)
    have hmo := cnt_mono (fun a => J (it f a t0)) (Nat.le_of_lt hrL)
    rw [pk_sub (a := L) (by omega), pk_sub (a := G) (by omega)]
    refine ok_gd (nI_ne0 (by omega) (by omega)) ?_
    (try unfold QB); (try unfold QM); repeat (first | (with_reducible refine ok_lt ?_) | ((with_reducible refine ok_gd ?_ ?_); first | assumption | exact zb0 | exact zb1 | ((with_reducible apply ai_of) <;> first | assumption | omega | decide) | exact ai_lit (by assumption) (by decide) (by decide) (by decide)) | (refine ok_bR (by assumption) ?_))
    rw [pk_div (by omega) (by omega) (by omega)]
    refine ok_bde (e_B_remainder (by omega) (by omega) (by omega) (by omega)) ?_
    rw [rmd_ge (by omega), nI_add, r3, r4]
    (try unfold QB); (try unfold QM); repeat (first | (with_reducible refine ok_lt ?_) | ((with_reducible refine ok_gd ?_ ?_); first | assumption | exact zb0 | exact zb1 | ((with_reducible apply ai_of) <;> first | assumption | omega | decide) | exact ai_lit (by assumption) (by decide) (by decide) (by decide)) | (refine ok_bR (by assumption) ?_))
    refine ok_ret ⟨?_, rfl⟩
    (try simp (disch := omega) only [nI_clamp, cl0, cl1, cl2, cl3, cl4, cl5, cl6, cl7, cl8])
    rw [rJ _ (by omega), rJ L (Nat.le_refl _), rJ r (by omega), pk_sub hmo, pk_mul, nI_add, ← cnt_rd ro G (by omega)]
theorem e_U_daysRound (Y : LayU h u) (R : RepU h u f J t0 k d o L r) (hk : k ≤ 3) : f_U_daysRound u h = some (if k = 2 then 1 else if r = 0 then nI (if k = 3 then 2 * L else L) else -2, h) := by
  obtain ⟨y1, y2, y3, y4, y5, y6, y7, y8⟩ := Y
  obtain ⟨ro, rl, r3, r4, r5, r6, r7, rT, rP, rJ⟩ := R
  have hrL := ro.1
  refine ok_eq ?_
  unfold f_U_daysRound
  (try unfold QB); (try unfold QM); repeat (first | (with_reducible refine ok_lt ?_) | ((with_reducible refine ok_gd ?_ ?_); first | assumption | exact zb0 | exact zb1 | ((with_reducible apply ai_of) <;> first | assumption | omega | decide) | exact ai_lit (by assumption) (by decide) (by decide) (by decide)) | (refine ok_bR (by assumption) ?_))
  rw [r5, r4, r3]
  refine ok_ieq (b := 2) (by omega) (by decide) (fun c => ok_ret ⟨by rw [if_pos c], rfl⟩) (fun c => ?_)
  rw [if_neg c]
  (try unfold QB); (try unfold QM); repeat (first | (with_reducible refine ok_lt ?_) | ((with_reducible refine ok_gd ?_ ?_); first | assumption | exact zb0 | exact zb1 | ((with_reducible apply ai_of) <;> first | assumption | omega | decide) | exact ai_lit (by assumption) (by decide) (by decide) (by decide)) | (refine ok_bR (by assumption) ?_))
  refine ok_ieq (b := 0) (by omega) (by decide) (fun c2 => ?_) (fun c2 => ok_ret ⟨by rw [if_neg c2], rfl⟩)
  rw [if_pos c2]
  (try unfold QB); (try unfold QM); repeat (first | (with_reducible refine ok_lt ?_) | ((with_reducible refine ok_gd ?_ ?_); first | assumption | exact zb0 | exact zb1 | ((with_reducible apply ai_of) <;> first | assumption | omega | decide) | exact ai_lit (by assumption) (by decide) (by decide) (by decide)) | (refine ok_bR (by assumption) ?_))
  refine ok_ieq (b := 3) (by omega) (by decide) (fun c3 => ?_) (fun c3 => ?_)
  · (try unfold QB); (try unfold QM); repeat (first | (with_reducible refine ok_lt ?_) | ((with_reducible refine ok_gd ?_ ?_); first | assumption | exact zb0 | exact zb1 | ((with_reducible apply ai_of) <;> first | assumption | omega | decide) | exact ai_lit (by assumption) (by decide) (by decide) (by decide)) | (refine ok_bR (by assumption) ?_))
    rw [if_pos c3]
    refine ok_ret ⟨?_, rfl⟩
    show nI 2 * nI L = _
    rw [pk_mul]
  · (try unfold QB); (try unfold QM); repeat (first | (with_reducible refine ok_lt ?_) | ((with_reducible refine ok_gd ?_ ?_); first | assumption | exact zb0 | exact zb1 | ((with_reducible apply ai_of) <;> first | assumption | omega | decide) | exact ai_lit (by assumption) (by decide) (by decide) (by decide)) | (refine ok_bR (by assumption) ?_))
    rw [if_neg c3]
    exact ok_ret ⟨rfl, rfl⟩
theorem e_U_teethUntil (Y : LayU h u) (R : RepU h u f J t0 k d o L r) (hk : k ≤ 3) (hn : n < 2 ^ 30) (ho : o < 2 ^ 30) : f_U_teethUntil u (nI n) h = some (nI (min L (gs k d o n + 1)), h) := by
  have eg := e_U_goings Y R hk hn ho
  obtain ⟨y1, y2, y3, y4, y5, y6, y7, y8⟩ := Y
  obtain ⟨ro, rl, r3, r4, r5, r6, r7, rT, rP, rJ⟩ := R
  have hgl := gs_le (k := k) (d := d) (o := o) (n := n)
  refine ok_eq ?_
  unfold f_U_teethUntil
  (try unfold QB); (try unfold QM); repeat (first | (with_reducible refine ok_lt ?_) | ((with_reducible refine ok_gd ?_ ?_); first | assumption | exact zb0 | exact zb1 | ((with_reducible apply ai_of) <;> first | assumption | omega | decide) | exact ai_lit (by assumption) (by decide) (by decide) (by decide)) | (refine ok_bR (by assumption) ?_))
  refine ok_bde eg ?_
  rw [r3, nI_1]
  exact ok_bde (e_min (by omega) (by omega)) (ok_ret ⟨rfl, rfl⟩)
/-- the first day from n on with tooth t on top: what is answered, and what it says -/
theorem ok_U_dayFrom (Y : LayU h u) (R : RepU h u f J t0 k d o L r) (hk : k ≤ 3) (hn : n ≤ 5000) (ho : o ≤ 99) {t : Nat} (ht : t < 60) : ∃ e, f_U_dayFrom u (nI t) (nI n) h = some (nI e, h) ∧ n ≤ e ∧ e < 2 ^ 29 ∧ (e = n ↔ it f (gs k d o n) t0 = t) ∧ ∀ y, n ≤ y → y < e → y ≤ 5000 → it f (gs k d o y) t0 ≠ t := by
  have eg := e_U_goings (n := n) Y R hk (by omega) (by omega)
  obtain ⟨y1, y2, y3, y4, y5, y6, y7, y8⟩ := Y
  obtain ⟨ro, rl, r3, r4, r5, r6, r7, rT, rP, rJ⟩ := R
  have hgl := gs_le (k := k) (d := d) (o := o) (n := n)
  have hrL := ro.1
  have gm : ∀ {a b : Nat}, a ≤ b → gs k d o a ≤ gs k d o b := fun h => gs_mono h
  -- the day of a going
  have dog : ∀ p, gs k d o n < p → p < 2 ^ 20 → (∀ q, gs k d o n ≤ q → q < p → it f q t0 ≠ t) → ∃ e, f_U_dayOfGoing u (nI p) h = some (nI e, h) ∧ n < e ∧ e < 2 ^ 29 ∧ ∀ y, n ≤ y → y < e → y ≤ 5000 → it f (gs k d o y) t0 ≠ t := by
    intro p hp hp2 hq
    by_cases hb : k = 2 ∧ o < p
    · refine ⟨5001, ?_, by omega, by decide, fun y h1 h2 h3 => hq _ (gm h1) ?_⟩
      · refine ok_eq ?_
        unfold f_U_dayOfGoing
        (try unfold QB); (try unfold QM); repeat (first | (with_reducible refine ok_lt ?_) | ((with_reducible refine ok_gd ?_ ?_); first | assumption | exact zb0 | exact zb1 | ((with_reducible apply ai_of) <;> first | assumption | omega | decide) | exact ai_lit (by assumption) (by decide) (by decide) (by decide)) | (refine ok_bR (by assumption) ?_))
        rw [r5, r6, hb.1]
        refine ok_t rfl ?_
        (try unfold QB); (try unfold QM); repeat (first | (with_reducible refine ok_lt ?_) | ((with_reducible refine ok_gd ?_ ?_); first | assumption | exact zb0 | exact zb1 | ((with_reducible apply ai_of) <;> first | assumption | omega | decide) | exact ai_lit (by assumption) (by decide) (by decide) (by decide)) | (refine ok_bR (by assumption) ?_))
        exact ok_f (fun g => by have := (nI_leI (by omega) (by omega)).mp g; omega) (ok_ret ⟨rfl, rfl⟩)
      · have : gs k d o y ≤ o := by
          unfold gs
          rw [if_pos hb.1]
          omega
        omega
    · have hcond : if k = 2 then p ≤ o else True := by
        by_cases e : k = 2
        · rw [if_pos e]
          omega
        · rw [if_neg e]
          trivial
      refine ⟨if k = 3 then 2 * p - (if d % 2 = 0 then 1 else 0) else p, ?_, gs_day2 (by omega) hcond hp, by split <;> omega, fun y h1 h2 _ => hq _ (gm h1) (gs_day (by omega) hcond h2)⟩
      have e20 : Ok (b_U_dayOfGoing_20 u (nI p) h) (fun x h' => x = nI (if k = 3 then 2 * p - (if d % 2 = 0 then 1 else 0) else p) ∧ h' = h) := by
        unfold b_U_dayOfGoing_20
        (try unfold QB); (try unfold QM); repeat (first | (with_reducible refine ok_lt ?_) | ((with_reducible refine ok_gd ?_ ?_); first | assumption | exact zb0 | exact zb1 | ((with_reducible apply ai_of) <;> first | assumption | omega | decide) | exact ai_lit (by assumption) (by decide) (by decide) (by decide)) | (refine ok_bR (by assumption) ?_))
        rw [r5, r7]
        refine ok_ieq (b := 3) (by omega) (by decide) (fun c => ?_) (fun c => ok_ret ⟨by rw [if_neg c], rfl⟩)
        (try unfold QB); (try unfold QM); repeat (first | (with_reducible refine ok_lt ?_) | ((with_reducible refine ok_gd ?_ ?_); first | assumption | exact zb0 | exact zb1 | ((with_reducible apply ai_of) <;> first | assumption | omega | decide) | exact ai_lit (by assumption) (by decide) (by decide) (by decide)) | (refine ok_bR (by assumption) ?_))
        refine ok_ret ⟨?_, rfl⟩
        rw [if_pos c]
        have hx : (if d % 2 = 0 then 1 else 0) ≤ 1 := by split <;> omega
        show nI 2 * nI p - _ = _
        rw [pk_mul, pk_sub (by omega)]
      refine ok_eq ?_
      unfold f_U_dayOfGoing
      (try unfold QB); (try unfold QM); repeat (first | (with_reducible refine ok_lt ?_) | ((with_reducible refine ok_gd ?_ ?_); first | assumption | exact zb0 | exact zb1 | ((with_reducible apply ai_of) <;> first | assumption | omega | decide) | exact ai_lit (by assumption) (by decide) (by decide) (by decide)) | (refine ok_bR (by assumption) ?_))
      rw [r5, r6]
      refine ok_ieq (b := 2) (by omega) (by decide) (fun c => ?_) (fun c => e20)
      (try unfold QB); (try unfold QM); repeat (first | (with_reducible refine ok_lt ?_) | ((with_reducible refine ok_gd ?_ ?_); first | assumption | exact zb0 | exact zb1 | ((with_reducible apply ai_of) <;> first | assumption | omega | decide) | exact ai_lit (by assumption) (by decide) (by decide) (by decide)) | (refine ok_bR (by assumption) ?_))
      exact ok_ile (by omega) (by omega) (fun _ => e20) (fun c2 => absurd ⟨c, c2⟩ hb)
  have d61 : ∀ p, gs k d o n ≤ p → p < 2 ^ 20 → it f p t0 = t → (∀ q, gs k d o n ≤ q → q < p → it f q t0 ≠ t) → ∃ e, b_U_dayFrom_61 u (nI n) (nI p) (nI (gs k d o n)) h = some (nI e, h) ∧ n ≤ e ∧ e < 2 ^ 29 ∧ (e = n ↔ it f (gs k d o n) t0 = t) ∧ ∀ y, n ≤ y → y < e → y ≤ 5000 → it f (gs k d o y) t0 ≠ t := by
    intro p hp hp2 hpt hq
    by_cases e : p = gs k d o n
    · refine ⟨n, ?_, Nat.le_refl _, by omega, ⟨fun _ => by rw [← e]; exact hpt, fun _ => rfl⟩, fun y h1 h2 => by omega⟩
      unfold b_U_dayFrom_61
      rw [if_pos (by rw [e])]
    · obtain ⟨e1, g1, g2, g3, g4⟩ := dog p (by omega) hp2 hq
      refine ⟨e1, ?_, by omega, g3, ⟨fun g => by omega, fun g => absurd g (hq _ (Nat.le_refl _) (by omega))⟩, g4⟩
      refine ok_eq ?_
      unfold b_U_dayFrom_61
      refine ok_f (fun g => e ((nI_eq (by omega) (by omega)).mp g)) ?_
      (try unfold QB); (try unfold QM); repeat (first | (with_reducible refine ok_lt ?_) | ((with_reducible refine ok_gd ?_ ?_); first | assumption | exact zb0 | exact zb1 | ((with_reducible apply ai_of) <;> first | assumption | omega | decide) | exact ai_lit (by assumption) (by decide) (by decide) (by decide)) | (refine ok_bR (by assumption) ?_))
      exact ok_bde g1 (ok_ret ⟨rfl, rfl⟩)
  have none : (∀ q, gs k d o n ≤ q → it f q t0 ≠ t) → n ≤ 5001 ∧ (5001 : Nat) < 2 ^ 29 ∧ (5001 = n ↔ it f (gs k d o n) t0 = t) ∧ ∀ y, n ≤ y → y < 5001 → y ≤ 5000 → it f (gs k d o y) t0 ≠ t := by
    intro hq
    exact ⟨by omega, by decide, ⟨fun g => by omega, fun g => absurd g (hq _ (Nat.le_refl _))⟩, fun y h1 _ _ => hq _ (gm h1)⟩
  unfold f_U_dayFrom
  rw [gd_pos y1, y3]
  show ∃ e, gd _ _ = _ ∧ _
  rw [gd_pos (ai_of y6 ht (by decide))]
  show ∃ e, (if hI h (u + 2) (nI t).toNatClampNeg = -1 then _ else _) = _ ∧ _
  rw [nI_clamp (n := t) (by omega)]
  rcases rP t ht with ⟨p, hp, hpe, hpv⟩ | ⟨hno, hpv⟩
  · rw [hpv, if_neg (nI_nm1 (by omega)), gd_pos y1, eg]
    show ∃ e, (if nI (gs k d o n) ≤ nI p then _ else _) = _ ∧ _
    by_cases c : gs k d o n ≤ p
    · rw [if_pos (nI_le c (by omega))]
      refine d61 p c (by omega) hpe (fun q h1 h2 => ?_)
      rw [← hpe]
      exact ro.2.2 q p h2 hp
    · rw [if_neg (fun g => c ((nI_leI (by omega) (by omega)).mp g)), gd_pos y1]
      show ∃ e, (if hI h u 4 ≤ nI p then _ else _) = _ ∧ _
      rw [r4]
      by_cases c2 : r ≤ p
      · rw [if_pos (nI_le c2 (by omega)), gd_pos y1]
        show ∃ e, gd _ _ = _ ∧ _
        rw [gd_pos y1]
        show ∃ e, bd (f_B_remainder (nI p - nI (gs k d o n)) (hI h u 3 - nI r) h) _ = _ ∧ _
        rw [r3, pk_sub (a := L) (by omega), e_B_remainder (by omega) (by omega) (by omega) (by omega)]
        show ∃ e, b_U_dayFrom_61 u (nI n) (nI (gs k d o n) + nI (rmd p (gs k d o n) (L - r))) (nI (gs k d o n)) h = _ ∧ _
        rw [nI_add]
        generalize hG : gs k d o n = G at *
        have hrm : rmd p G (L - r) < L - r := by
          unfold rmd
          rw [if_neg (by omega)]
          exact Nat.mod_lt _ (by omega)
        -- G + rmd is the first place at or behind G of the tooth
        have hmod : ∀ q, G ≤ q → it f q t0 = t → (q - p) % (L - r) = 0 := by
          intro q hq1 hq2
          have e1 : it f q t0 = it f p t0 := by rw [hq2, hpe]
          by_cases hqL : q < L
          · rcases Nat.lt_trichotomy q p with g | g | g
            · omega
            · rw [g, Nat.sub_self, Nat.zero_mod]
            · exact absurd e1.symm (ro.2.2 p q g hqL)
          · obtain ⟨-, e2⟩ := orb_eq ro hp (by omega) e1
            have e3 : (q - p + (p - r)) % (L - r) = p - r := by
              rw [show q - p + (p - r) = q - r by omega]
              exact e2
            have e4 : p - r < L - r := by omega
            have e5 := Nat.div_add_mod (q - p + (p - r)) (L - r)
            rw [e3] at e5
            have e6 : q - p = (L - r) * ((q - p + (p - r)) / (L - r)) := by omega
            rw [e6]
            exact Nat.mul_mod_right _ _
        have hon : it f (G + rmd p G (L - r)) t0 = t := by
          have e1 := orb_rd ro (G + rmd p G (L - r)) (by omega)
          have e2 : (G + rmd p G (L - r) - r) % (L - r) = p - r := by
            unfold rmd
            rw [if_neg (by omega)]
            have hx := Nat.mod_lt (G - p) (show 0 < L - r by omega)
            have hdm := Nat.div_add_mod (G - p) (L - r)
            rcases Nat.eq_zero_or_pos ((G - p) % (L - r)) with z | z
            · rw [z, Nat.sub_zero, Nat.mod_self, Nat.add_zero]
              have e7 : G - r = (p - r) + (L - r) * ((G - p) / (L - r)) := by omega
              rw [e7, Nat.add_mul_mod_self_left, Nat.mod_eq_of_lt (by omega)]
            · rw [Nat.mod_eq_of_lt (a := L - r - (G - p) % (L - r)) (by omega)]
              have e7 : G + (L - r - (G - p) % (L - r)) - r = (p - r) + (L - r) * ((G - p) / (L - r) + 1) := by
                rw [Nat.mul_add, Nat.mul_one]
                omega
              rw [e7, Nat.add_mul_mod_self_left, Nat.mod_eq_of_lt (by omega)]
          rw [e1, e2, show r + (p - r) = p by omega]
          exact hpe
        refine d61 (G + rmd p G (L - r)) (by omega) (by omega) hon (fun q h1 h2 e => ?_)
        have m1 := hmod q h1 e
        have m2 := hmod _ (by omega) hon
        have d1 := Nat.div_add_mod (q - p) (L - r)
        have d2 := Nat.div_add_mod (G + rmd p G (L - r) - p) (L - r)
        rw [m1] at d1
        rw [m2] at d2
        have hlt : (q - p) / (L - r) < (G + rmd p G (L - r) - p) / (L - r) := by
          apply Nat.lt_of_mul_lt_mul_left (a := L - r)
          omega
        have hle : (L - r) * ((q - p) / (L - r) + 1) ≤ (L - r) * ((G + rmd p G (L - r) - p) / (L - r)) := Nat.mul_le_mul_left _ hlt
        rw [Nat.mul_add, Nat.mul_one] at hle
        omega
      · rw [if_neg (fun g => c2 ((nI_leI (by omega) (by omega)).mp g))]
        have hq : ∀ q, gs k d o n ≤ q → it f q t0 ≠ t := by
          intro q hq1 hq2
          have e1 : it f q t0 = it f p t0 := by rw [hq2, hpe]
          by_cases hqL : q < L
          · exact ro.2.2 p q (by omega) hqL e1.symm
          · exact c2 (orb_eq ro hp (by omega) e1).1
        exact ⟨5001, rfl, none hq⟩
  · rw [hpv, if_pos rfl]
    have hq : ∀ q, gs k d o n ≤ q → it f q t0 ≠ t := by
      intro q _ hq2
      obtain ⟨i, hi, e, -⟩ := orb_in ro q
      exact hno i hi (by rw [← e]; exact hq2)
    exact ⟨5001, rfl, none hq⟩
end UQ
