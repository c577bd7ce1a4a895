/-! the game at the reference -/
section GN
variable {h : Hp} {m q f : Nat} {D : DD} {V : Nat → Nat} {s : Nat → Nat} {c : Bool}
theorem ok_m_bestOf {b : Nat} (hm : LayM h m) (hb : b + 3 ≤ 729) (hs : ∀ i, i < 3 → hI h (m + 12) (b + i) = xI (s i)) (hl : ∀ i, i < 3 → s i < 2 ^ 20) : Ok (f_m_bestOf m (nI b) (bI (!c)) h) (fun r h' => r = xI (bk3 c s 3) ∧ h' = h) := by
  obtain ⟨a0, ⟨a1, a2, a3, a4, a5, a6, a7, a8, a9, a10, a11, a12, a13⟩, s1, s2, s3, s4, s5, s6, s7, s8, s9, s10, s11, s12, s13⟩ := id hm
  have hbk : ∀ i, i ≤ 3 → bk3 c s i < 2 ^ 20 := by
    intro i hi
    have e := bk3_cg (c := c) (s := s) (s' := fun j => if j < 3 then s j else 0) i (fun j hj => (if_pos (by omega)).symm)
    rw [e]
    have := bk3_le (c := c) (s := fun j => if j < 3 then s j else 0) (m := 2 ^ 20 - 1) (fun j => by
      show (if j < 3 then s j else 0) ≤ _
      by_cases w : j < 3
      · rw [if_pos w]
        have := hl j w
        omega
      · rw [if_neg w]
        omega) i
    omega
  unfold f_m_bestOf
  refine ok_lt ?_
  refine ok_up 3 (fun i st h' => st = (m, nI b, bI (!c), xI (bk3 c s i), nI (b + i)) ∧ h' = h) ?_ FU 0 _ _ (Nat.zero_le _) ⟨rfl, rfl⟩ (by show _ < 10000; omega)
  intro k i st h' hi hI kk
  obtain ⟨rfl, rfl⟩ := hI
  show Ok (b_m_bestOf_5 k m (nI b) (bI (!c)) (xI (bk3 c s i)) (nI (b + i)) h') _
  unfold b_m_bestOf_5
  rw [show nI b + 3 = nI (b + 3) from nI_add b 3]
  refine ok_it (by omega) (by omega) (fun w => ?_) (fun w => ?_)
  · have : i = 3 := by omega
    subst this
    exact ok_ret ⟨rfl, rfl⟩
  · have hi3 : i < 3 := by omega
    have skip : ¬ bet c (bk3 c s i) (s i) → Ok (b_m_bestOf_66 k m (nI b) (bI (!c)) (xI (bk3 c s i)) (nI (b + i)) h') (fun r h'' => r = xI (bk3 c s 3) ∧ h'' = h') := by
      intro nb
      unfold b_m_bestOf_66
      refine kk _ _ hi3 ⟨?_, rfl⟩
      rw [nI_1]
      show _ = (m, nI b, bI (!c), xI (bst c (bk3 c s i) (s i)), nI (b + i + 1))
      rw [bst_e, if_neg nb]
    have take : bet c (bk3 c s i) (s i) → Ok (b_m_bestOf_58 k m (nI b) (bI (!c)) (nI (b + i)) h') (fun r h'' => r = xI (bk3 c s 3) ∧ h'' = h') := by
      intro nb
      unfold b_m_bestOf_58 b_m_bestOf_66
      refine ok_gd a0 (ok_bR a12 (ok_gd (ai_of s12 (by omega) (by decide)) (ok_lt ?_)))
      rw [nI_clamp (by omega), hs i hi3]
      refine kk _ _ hi3 ⟨?_, rfl⟩
      rw [nI_1]
      show _ = (m, nI b, bI (!c), xI (bst c (bk3 c s i) (s i)), nI (b + i + 1))
      rw [bst_e, if_pos nb]
    have hsl := hl i hi3
    have hbl := hbk i hi
    refine ok_gd a0 (ok_bR a12 (ok_gd (ai_of s12 (by omega) (by decide)) (ok_lt ?_)))
    rw [nI_clamp (by omega), hs i hi3]
    refine ok_ix (by omega) (fun z => skip (fun e => e.1 z)) (fun z => ok_ix (by omega) (fun y => take ⟨z, Or.inl y⟩) (fun y => ?_))
    have e1 : xI (s i) = nI (s i - 1) := if_neg z
    have e2 : xI (bk3 c s i) = nI (bk3 c s i - 1) := if_neg y
    cases c with
    | true =>
      refine ok_t rfl (ok_gd a0 (ok_bR a12 (ok_gd (ai_of s12 (by omega) (by decide)) (ok_lt ?_))))
      rw [hs i hi3]
      by_cases w2 : s i - 1 ≤ bk3 true s i - 1
      · exact ok_t (by rw [e1, e2]; exact nI_le w2 (by omega)) (skip (by rw [bet_t]; omega))
      · exact ok_f (by rw [e1, e2]; exact fun w3 => w2 ((nI_leI (by omega) (by omega)).mp w3)) (take (by rw [bet_t]; omega))
    | false =>
      refine ok_f (by decide) (ok_gd a0 (ok_bR a12 (ok_gd (ai_of s12 (by omega) (by decide)) (ok_lt ?_))))
      rw [hs i hi3]
      by_cases w2 : bk3 false s i - 1 ≤ s i - 1
      · exact ok_t (by rw [e1, e2]; exact nI_le w2 (by omega)) (skip (by rw [bet_f]; omega))
      · exact ok_f (by rw [e1, e2]; exact fun w3 => w2 ((nI_leI (by omega) (by omega)).mp w3)) (take (by rw [bet_f]; omega))
theorem ok_m_feastsBy {n a : Nat} (X : DX h m q D V) (hn : n ≤ 6) (hf : f < dF D) (hd : ∀ i, i < n → hI h (m + 13) i = nI (a / 3 ^ (n - 1 - i) % 3)) : Ok (f_m_feastsBy m (nI f) (nI n) h) (fun r h' => r = xI (lv D f V n n a) ∧ Fk (sX m) h h') := by
  obtain ⟨hm, hq, hqm, R, W, rX, hv⟩ := id X
  obtain ⟨a0, ⟨a1, a2, a3, a4, a5, a6, a7, a8, a9, a10, a11, a12, a13⟩, s1, s2, s3, s4, s5, s6, s7, s8, s9, s10, s11, s12, s13⟩ := id hm
  unfold f_m_feastsBy
  refine ok_gd a0 (ok_bd (ok_mono (ok_m_works hm rX) ?_))
  intro _ h1 hx
  obtain ⟨F1, v1⟩ := hx
  refine ok_lt (ok_lt ?_)
  have hill : ∀ i, i ≤ n → (pr D f V i (a / 3 ^ (n - i))).2.2 = false → lv D f V n n a = 0 := by
    intro i hi w
    unfold lv
    refine if_neg (fun e => ?_)
    have := pr_pre (D := D) (f := f) (U := V) i (n - i) a (by rw [show i + (n - i) = n by omega]; exact e)
    rw [w] at this
    cases this
  refine ok_up n (fun i st h' => st = (m, nI f, nI n, nI (pr D f V i (a / 3 ^ (n - i))).2.1, nI i) ∧ (pr D f V i (a / 3 ^ (n - i))).2.2 = true ∧ Fk (sX m) h h' ∧ RepX h' (m + 3) (pr D f V i (a / 3 ^ (n - i))).1) ?_ FU 0 _ _ (Nat.zero_le _) ⟨rfl, rfl, F1, v1⟩ (by show _ < 10000; omega)
  intro k i st h' hi hI kk
  obtain ⟨rfl, hleg, F3, v3⟩ := hI
  show Ok (b_m_feastsBy_9 k m (nI f) (nI n) (nI (pr D f V i (a / 3 ^ (n - i))).2.1) (nI i) h') _
  unfold b_m_feastsBy_9
  refine ok_it hi (by omega) (fun w => ?_) (fun w => ?_)
  · subst w
    refine ok_ret ⟨?_, F3⟩
    rw [Nat.sub_self, Nat.pow_zero, Nat.div_one] at hleg ⊢
    unfold lv
    rw [if_pos hleg, Nat.sub_self]
    rfl
  · have hm3 := hm.fk F3
    have R3 : RepQ h' q D := R.fk F3 (fun i k hi e => by unfold sX at e; omega)
    have q3 : hR h' m 3 = some q := by rw [F3.2.2.2.1]; exact hq
    have d3 : hI h' (m + 13) i = nI (a / 3 ^ (n - 1 - i) % 3) := by
      rw [(F3.2.2.2.2 (m + 13) i (by unfold sX; omega)).1]
      exact hd i w
    obtain ⟨P, hP⟩ : ∃ P, P = pr D f V i (a / 3 ^ (n - i)) := ⟨_, rfl⟩
    obtain ⟨d, hdd⟩ : ∃ d, d = a / 3 ^ (n - 1 - i) % 3 := ⟨_, rfl⟩
    have hd3 : d < 3 := by rw [hdd]; exact Nat.mod_lt _ (by decide)
    have hpn : pr D f V (i + 1) (a / 3 ^ (n - (i + 1))) = (mvU D d P.1, P.2.1 + feN D f (mvU D d P.1), P.2.2 && !decide (d = 2 ∧ P.1 0 = 0)) := by
      have e1 : a / 3 ^ (n - (i + 1)) / 3 = a / 3 ^ (n - i) := by
        rw [Nat.div_div_eq_div_mul, ← Nat.pow_succ, show (n - (i + 1)).succ = n - i by omega]
      have e2 : a / 3 ^ (n - (i + 1)) % 3 = d := by rw [hdd, show n - (i + 1) = n - 1 - i by omega]
      show (mvU D (a / 3 ^ (n - (i + 1)) % 3) (pr D f V i (a / 3 ^ (n - (i + 1)) / 3)).1, (pr D f V i (a / 3 ^ (n - (i + 1)) / 3)).2.1 + feN D f (mvU D (a / 3 ^ (n - (i + 1)) % 3) (pr D f V i (a / 3 ^ (n - (i + 1)) / 3)).1), (pr D f V i (a / 3 ^ (n - (i + 1)) / 3)).2.2 && !decide (a / 3 ^ (n - (i + 1)) % 3 = 2 ∧ (pr D f V i (a / 3 ^ (n - (i + 1)) / 3)).1 0 = 0)) = _
      rw [e1, e2, hP]
    have hwP : WfN D P.1 (5002 - i) := by rw [hP]; exact pr_wf W hv i _ (by omega)
    have hle : P.2.1 ≤ i := by rw [hP]; exact pr_le i _
    rw [← hP] at hleg v3 ⊢
    rw [← hdd] at d3
    clear hdd
    have hwP' := hwP
    rw [show 5002 - i = 5001 - i + 1 by omega] at hwP'
    have hwM := hwP'.mvU_ W d
    have hnx := hill (i + 1) (by omega)
    rw [hpn] at hnx kk
    clear hP hpn
    have hP0 := hwP.1
    have sh := hm3.2.2.2.2.2.2.2.2.2.2.2.2.2.2
    have sh13 : hS h' (m + 13) = some (.inr (0, 6)) := by rw [F3.2.1]; exact s13
    have r33 : hR h' m 33 = some (m + 13) := by rw [F3.2.2.2.1]; exact a13
    have r16 : hR h' m 16 = some (m + 3) := by rw [F3.2.2.2.1]; exact a3
    have aft : ∀ h4, Fk (sX m) h h4 → RepX h4 (m + 3) (mvU D d P.1) → ¬ (d = 2 ∧ P.1 0 = 0) → Ok (b_m_feastsBy_68 k m (nI f) (nI n) (nI P.2.1) (nI i) h4) (fun r h' => r = xI (lv D f V n n a) ∧ Fk (sX m) h h') := by
      intro h4 F4 v4 w4
      have hm4 := hm.fk F4
      have R4 : RepQ h4 q D := R.fk F4 (fun i k hi e => by unfold sX at e; omega)
      have q4 : hR h4 m 3 = some q := by rw [F4.2.2.2.1]; exact hq
      unfold b_m_feastsBy_68 b_m_feastsBy_82
      refine ok_gd hm4.1 (ok_bde (e_m_isOn hm4 q4 R4 W v4 hwM.wf hf) ?_)
      have fin : ∀ v : Int32, v = nI (feN D f (mvU D d P.1)) → Ok (k (m, nI f, nI n, nI P.2.1 + v, nI i + 1) h4) (fun r h' => r = xI (lv D f V n n a) ∧ Fk (sX m) h h') := by
        intro v hv
        subst hv
        refine kk _ _ w ⟨?_, ?_, F4, v4⟩
        · rw [nI_1, nI_add]
        · show (P.2.2 && !decide (d = 2 ∧ P.1 0 = 0)) = true
          rw [hleg, decide_eq_false w4]
          rfl
      refine ok_ib (fun z => ok_lt (fin _ ?_)) (fun z => ok_lt (fin _ ?_))
      · unfold feN
        rw [z]
        rfl
      · unfold feN
        rw [z]
        rfl
    refine ok_gd hm3.1 (ok_bR r33 (ok_gd (ai_of sh13 (by omega) (by decide)) (ok_lt ?_)))
    rw [nI_clamp (by omega), d3]
    have mid : ¬ (d = 2 ∧ P.1 0 = 0) → Ok (b_m_feastsBy_37 k m (nI f) (nI n) (nI P.2.1) (nI i) h') (fun r h' => r = xI (lv D f V n n a) ∧ Fk (sX m) h h') := by
      intro w4
      unfold b_m_feastsBy_37
      refine ok_gd hm3.1 (ok_bR r33 (ok_gd (ai_of sh13 (by omega) (by decide)) (ok_lt ?_)))
      rw [nI_clamp (by omega), d3]
      refine ok_ieq (b := 0) (by omega) (by decide) (fun z => ?_) (fun z => ?_)
      · subst z
        refine ok_gd hm3.1 (ok_bd (ok_mono (ok_m_aTurn hm3 q3 hqm R3 W v3 hwP.wf) ?_))
        intro _ h4 hx
        obtain ⟨-, F4, v4⟩ := hx
        have F5 := F3.trans F4
        unfold b_m_feastsBy_52
        have d4 : hI h4 (m + 13) i = nI 0 := by
          rw [(F4.2.2.2.2 (m + 13) i (by unfold sX; omega)).1]
          exact d3
        refine ok_gd (hm.fk F5).1 (ok_bR (by rw [F4.2.2.2.1]; exact r33) (ok_gd (ai_of (by rw [F4.2.1]; exact sh13) (by omega) (by decide)) (ok_lt ?_)))
        rw [nI_clamp (by omega), d4]
        exact ok_f (by decide) (aft h4 F5 v4 w4)
      · unfold b_m_feastsBy_52
        refine ok_gd hm3.1 (ok_bR r33 (ok_gd (ai_of sh13 (by omega) (by decide)) (ok_lt ?_)))
        rw [nI_clamp (by omega), d3]
        refine ok_ieq (b := 2) (by omega) (by decide) (fun y => ?_) (fun y => ?_)
        · subst y
          refine ok_gd hm3.1 (ok_bd (ok_mono (ok_m_aTurnBack hm3 q3 hqm R3 W v3 hwP.wf (by omega)) ?_))
          intro _ h4 hx
          obtain ⟨-, F4, v4⟩ := hx
          exact aft h4 (F3.trans F4) v4 w4
        · have : d = 1 := by omega
          subst this
          exact aft h' F3 v3 w4
    refine ok_ieq (b := 2) (by omega) (by decide) (fun z => ?_) (fun z => mid (by omega))
    refine ok_gd hm3.1 (ok_bR r16 (ok_gd (ai_lit v3.1 (by decide) (by decide) (by decide)) (ok_lt ?_)))
    rw [cl5, v3.2 5 (by decide)]
    refine ok_ieq (a := P.1 0) (b := 0) (by omega) (by decide) (fun y => ?_) (fun y => mid (by omega))
    refine ok_ret ⟨?_, F3⟩
    rw [hnx (by show (P.2.2 && !decide (d = 2 ∧ P.1 0 = 0)) = false; rw [decide_eq_true ⟨z, y⟩, hleg]; rfl)]
    rfl
end GN
