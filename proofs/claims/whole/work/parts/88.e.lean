section GA
variable {h : Hp} {m q f : Nat} {D : DD} {V : Nat → Nat} {s : Nat → Nat} {c : Bool}
def sA (m a k : Nat) : Prop := sX m a k ∨ a = m + 12 ∨ a = m + 13
theorem DX.fa {h' : Hp} (X : DX h m q D V) (F : Fk (sA m) h h') : DX h' m q D V := by
  obtain ⟨x1, x2, x3, x4, x5, x6, x7⟩ := X
  exact ⟨x1.fk F, by rw [F.2.2.2.1]; exact x2, x3, x4.fk F (fun i k hi e => by unfold sA sX at e; omega), x5, x6.fk F (fun k e => by unfold sA sX at e; omega), x7⟩
theorem nI_p1 {a : Nat} : nI a + (-1) = nI a - 1 := (Int32.sub_eq_add_neg _ _).symm
theorem ok_m_ar91 {n : Nat} (hm : LayM h m) (hn : n ≤ 6) (hl : ∀ p, p < 3 ^ n → hI h (m + 12) p = xI (lv D f V n n p)) : Ok (l_m_argues_91 FU (m, nI (3 ^ n), nI n - 1) h) (fun _ h' => Fk (fun a _ => a = m + 12) h h' ∧ (0 < n → ∀ p, p < 3 → hI h' (m + 12) p = xI (lv D f V n 1 p))) := by
  refine ok_up (n - 1) (fun j st h' => st = (m, nI (3 ^ (n - j)), nI (n - j) - 1) ∧ Fk (fun a _ => a = m + 12) h h' ∧ ∀ p, p < 3 ^ (n - j) → hI h' (m + 12) p = xI (lv D f V n (n - j) p)) ?_ FU 0 _ _ (Nat.zero_le _) ⟨rfl, Fk.rf, hl⟩ (by show _ < 10000; omega)
  intro k j st h' hj hI kk
  obtain ⟨rfl, F1, l1⟩ := hI
  show Ok (b_m_argues_91 k m (nI (3 ^ (n - j))) (nI (n - j) - 1) h') _
  unfold b_m_argues_91
  rcases Nat.eq_zero_or_pos n with hz | hz
  · subst hz
    rw [Nat.zero_sub]
    exact ok_t (by decide) (ok_ret ⟨F1, fun e => by omega⟩)
  · obtain ⟨r, hr⟩ : ∃ r, n - j = r + 1 := ⟨n - j - 1, by omega⟩
    rw [hr] at l1
    rw [hr, nI_s (by omega), show r + 1 - 1 = r by omega]
    refine ok_ile (b := 0) (by omega) (by decide) (fun e => ?_) (fun e => ?_)
    · have : r = 0 := by omega
      subst this
      exact ok_ret ⟨F1, fun _ => l1⟩
    · have h3 : 3 ^ r ≤ 243 := Nat.pow_le_pow_right (n := 3) (by decide) (show r ≤ 5 by omega)
      have h31 : 3 ^ (r + 1) = 3 * 3 ^ r := by rw [Nat.pow_succ, Nat.mul_comm]
      have hdv : nI (3 ^ (r + 1)) / 3 = nI (3 ^ r) := by
        show nI (3 ^ (r + 1)) / nI 3 = _
        rw [pk_div (by omega) (by decide) (by decide), h31, Nat.mul_div_cancel_left _ (by decide)]
      refine ok_gd (by decide) (ok_lt (ok_lt ?_))
      rw [hdv]
      generalize hT : 3 ^ r = t at h3 h31
      have kk2 : ∀ h', Fk (fun a _ => a = m + 12) h h' → (∀ p, p < t → hI h' (m + 12) p = xI (lv D f V n r p)) → Ok (k (m, nI t, nI r + (-1)) h') (fun _ h' => Fk (fun a _ => a = m + 12) h h' ∧ (0 < n → ∀ p, p < 3 → hI h' (m + 12) p = xI (lv D f V n 1 p))) := by
        intro h' F2 l2
        refine kk _ _ (by omega) ?_
        rw [show n - (j + 1) = r by omega, hT, nI_p1]
        exact ⟨rfl, F2, l2⟩
      refine ok_up t (fun p st h' => st = (m, nI t, nI r, nI p) ∧ Fk (fun a _ => a = m + 12) h h' ∧ (∀ u, u < p → hI h' (m + 12) u = xI (lv D f V n r u)) ∧ (∀ u, p ≤ u → u < 3 * t → hI h' (m + 12) u = xI (lv D f V n (r + 1) u))) ?_ FU 0 _ _ (Nat.zero_le _) ⟨rfl, F1, fun u hu => by omega, fun u _ hu => l1 u (by rw [h31]; exact hu)⟩ (by show _ < 10000; omega)
      intro k2 p st h2 hp hI2 kk3
      obtain ⟨rfl, F2, l2, l3⟩ := hI2
      show Ok (b_m_argues_103 k k2 m (nI t) (nI r) (nI p) h2) _
      unfold b_m_argues_103
      refine ok_it hp (by omega) (fun e2 => ?_) (fun e2 => ?_)
      · subst e2
        exact kk2 h2 F2 l2
      · have hm2 := hm.fk F2
        have r32 := hm2.2.1.2.2.2.2.2.2.2.2.2.2.2.1
        have s12 := hm2.2.2.2.2.2.2.2.2.2.2.2.2.2.1
        have go : ∀ v : Int32, v = bI (!decide (r % 2 = 1)) → Ok (b_m_argues_132 k k2 m (nI t) (nI r) (nI p) v (nI p * 3) m (nI p) (m + 12) h2) (fun _ h' => Fk (fun a _ => a = m + 12) h h' ∧ (0 < n → ∀ p, p < 3 → hI h' (m + 12) p = xI (lv D f V n 1 p))) := by
          intro v hv
          subst hv
          have e3 : nI p * 3 = nI (3 * p) := by
            show nI p * nI 3 = _
            rw [pk_mul, Nat.mul_comm]
          unfold b_m_argues_132
          rw [e3]
          refine ok_gd hm2.1 (ok_bd (ok_mono (ok_m_bestOf (s := fun i => lv D f V n (r + 1) (3 * p + i)) (c := decide (r % 2 = 1)) hm2 (by omega) (fun i hi => l3 _ (by omega) (by omega)) (fun i hi => by have := lv_le (D := D) (f := f) (U := V) (n := n) (k := r + 1) (a := 3 * p + i) (by omega); omega)) ?_))
          intro y h4 hx
          obtain ⟨rfl, rfl⟩ := hx
          refine ok_gd (ai_of s12 (by omega) (by decide)) (ok_lt ?_)
          rw [nI_clamp (by omega), ← lv_s (by omega)]
          refine kk3 _ _ e2 ⟨by rw [nI_1], F2.trans (fk_uI rfl), fun u hu => ?_, fun u hu hu2 => ?_⟩
          · by_cases e4 : u = p
            · rw [e4, hI_uIs]
            · rw [hI_uIk e4]
              exact l2 u (by omega)
          · rw [hI_uIk (by omega)]
            exact l3 u (by omega) hu2
        refine ok_gd hm2.1 (ok_bR r32 (ok_gd (by decide) ?_))
        rw [show irm (nI r) 2 = nI (r % 2) from irm_nI (d := 2) (by omega) (by decide) (by decide)]
        refine ok_ieq (b := 0) (by omega) (by decide) (fun e4 => go _ ?_) (fun e4 => go _ ?_)
        · rw [decide_eq_false (by omega)]
          rfl
        · rw [decide_eq_true (by omega)]
          rfl
theorem ok_m_argues {n : Nat} (X : DX h m q D V) (hn : n ≤ 6) (hf : f < dF D) : Ok (f_m_argues m (nI f) (nI n) h) (fun _ h' => Fk (sA m) h h' ∧ (0 < n → ∀ p, p < 3 → hI h' (m + 12) p = xI (lv D f V n 1 p))) := by
  unfold f_m_argues
  refine ok_lt (ok_lt ?_)
  refine ok_up n (fun i st h' => st = (m, nI f, nI n, nI (3 ^ i), nI i) ∧ h' = h) ?_ FU 0 _ _ (Nat.zero_le _) ⟨rfl, rfl⟩ (by show _ < 10000; omega)
  intro k i st h' hi hI kk
  obtain ⟨rfl, rfl⟩ := hI
  show Ok (b_m_argues_5 k m (nI f) (nI n) (nI (3 ^ i)) (nI i) h') _
  unfold b_m_argues_5
  refine ok_it hi (by omega) (fun e => ?_) (fun e => ?_)
  · subst e
    refine ok_lt ?_
    clear kk
    have h3 : 3 ^ i ≤ 729 := Nat.pow_le_pow_right (n := 3) (by decide) hn
    generalize hT : 3 ^ i = t at h3
    refine ok_up t (fun a st h2 => st = (m, nI f, nI i, nI t, nI a) ∧ Fk (sA m) h' h2 ∧ ∀ p, p < a → hI h2 (m + 12) p = xI (lv D f V i i p)) ?_ FU 0 _ _ (Nat.zero_le _) ⟨rfl, Fk.rf, fun p hp => by omega⟩ (by show _ < 10000; omega)
    intro k2 a st h2 ha hI2 kk2
    obtain ⟨rfl, F2, l2⟩ := hI2
    show Ok (b_m_argues_24 k2 m (nI f) (nI i) (nI t) (nI a) h2) _
    unfold b_m_argues_24
    have X2 := X.fa F2
    refine ok_it ha (by omega) (fun e => ?_) (fun e => ?_)
    · subst e
      refine ok_lt ?_
      subst hT
      refine ok_mono (ok_m_ar91 (D := D) (f := f) (V := V) X2.1 hn l2) ?_
      intro _ h3 hx
      exact ⟨F2.trans (hx.1.mono (fun a k e => Or.inr (Or.inl e))), hx.2⟩
    · refine ok_lt ?_
      refine ok_up i (fun j st h3 => st = (m, nI f, nI i, nI t, nI a, nI (a / 3 ^ j), nI (i - j) - 1) ∧ Fk (sA m) h' h3 ∧ (∀ p, p < a → hI h3 (m + 12) p = xI (lv D f V i i p)) ∧ ∀ u, i - j ≤ u → u < i → hI h3 (m + 13) u = nI (a / 3 ^ (i - 1 - u) % 3)) ?_ FU 0 _ _ (Nat.zero_le _) ⟨by rw [Nat.pow_zero, Nat.div_one]; rfl, F2, l2, fun u _ _ => by omega⟩ (by show _ < 10000; omega)
      intro k3 j st h4 hj hI3 kk3
      obtain ⟨rfl, F4, l4, g4⟩ := hI3
      show Ok (b_m_argues_39 k2 k3 m (nI f) (nI i) (nI t) (nI a) (nI (a / 3 ^ j)) (nI (i - j) - 1) h4) _
      unfold b_m_argues_39
      have X4 := X.fa F4
      have hm4 := X4.1
      have r32 := hm4.2.1.2.2.2.2.2.2.2.2.2.2.2.1
      have r33 := hm4.2.1.2.2.2.2.2.2.2.2.2.2.2.2
      have s12 := hm4.2.2.2.2.2.2.2.2.2.2.2.2.2.1
      have s13 := hm4.2.2.2.2.2.2.2.2.2.2.2.2.2.2
      rcases Nat.eq_zero_or_pos (i - j) with hz | hz
      · rw [hz]
        refine ok_t (by decide) (ok_gd hm4.1 (ok_bR r32 (ok_gd hm4.1 (ok_bd (ok_mono (ok_m_feastsBy (n := i) (a := a) X4 hn hf (fun u hu => g4 u (by omega) hu)) ?_)))))
        intro y h5 hx
        obtain ⟨rfl, F5⟩ := hx
        refine ok_gd (ai_of (by rw [F5.2.1]; exact s12) (by omega) (by decide)) (ok_lt ?_)
        rw [nI_clamp (by omega)]
        refine kk2 _ _ e ⟨by rw [nI_1], (F4.trans (F5.mono (fun a k e => Or.inl e))).trans (fk_uI (Or.inr (Or.inl rfl))), fun p hp => ?_⟩
        by_cases e4 : p = a
        · rw [e4, hI_uIs]
        · rw [hI_uIk e4, (F5.2.2.2.2 (m + 12) p (by unfold sX; omega)).1]
          exact l4 p (by omega)
      · rw [nI_s hz]
        have hal : a / 3 ^ j ≤ a := Nat.div_le_self _ _
        refine ok_f (nI_pos (by omega)) (ok_gd hm4.1 (ok_bR r33 (ok_gd (by decide) (ok_gd (ai_of s13 (by omega) (by decide)) (ok_lt (ok_gd (by decide) (ok_lt ?_)))))))
        rw [nI_clamp (by omega), show irm (nI (a / 3 ^ j)) 3 = nI (a / 3 ^ j % 3) from irm_nI (d := 3) (by omega) (by decide) (by decide), show nI (a / 3 ^ j) / 3 = nI (a / 3 ^ j / 3) from pk_div (a := a / 3 ^ j) (d := 3) (by omega) (by decide) (by decide), nI_p1]
        refine kk3 _ _ (by omega) ⟨?_, F4.trans (fk_uI (Or.inr (Or.inr rfl))), fun p hp => ?_, fun u hu hu2 => ?_⟩
        · rw [Nat.div_div_eq_div_mul, ← Nat.pow_succ, show i - (j + 1) = i - j - 1 by omega]
        · rw [hI_uIa (by omega)]
          exact l4 p hp
        · by_cases e4 : u = i - j - 1
          · subst e4
            rw [hI_uIs, show i - 1 - (i - j - 1) = j by omega]
          · rw [hI_uIk e4]
            exact g4 u (by omega) hu2
  · refine ok_lt (kk _ _ e ⟨?_, rfl⟩)
    rw [nI_1, Nat.pow_succ]
    show (m, nI f, nI n, nI (3 ^ i) * nI 3, nI (i + 1)) = _
    rw [pk_mul]
end GA
