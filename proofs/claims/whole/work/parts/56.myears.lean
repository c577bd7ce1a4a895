/-! years at the reference -/
def sZ (m : Nat) (a k : Nat) : Prop := (a = m ∧ (k = 21 ∨ k = 34 ∨ k = 35)) ∨ a = m + 3
theorem sZ_X {m a k : Nat} (e : sX m a k) : sZ m a k := e.elim (fun e => Or.inl ⟨e.1, Or.inl e.2⟩) Or.inr
theorem sZ_Y {m a k : Nat} (e : sY m a k) : sZ m a k := e.elim (fun e => Or.inl ⟨e.1, e.2.elim Or.inl (fun g => Or.inr (Or.inl g))⟩) Or.inr
set_option maxHeartbeats 1000000 in
theorem ok_m_yearsAll {h : Hp} {m q n s F : Nat} {D : DD} {V : Nat → Nat} (hm : LayM h m) (hq : hR h m 3 = some q) (hqm : m + 14 ≤ q) (R : RepQ h q D) (W : Wf D) (v : RepX h (m + 2) V) (hv : WfN D V n) (hn : n ≤ 400) (hs : s < 65537) (hF : F ≤ dF D) : Ok (f_m_yearsAll m (nI s) (nI n) (xI F) h) (fun x h' => x = nI (yd D (tnX D) F V s n).2.2.2 ∧ Fk (sZ m) h h' ∧ RepX h' (m + 3) (yd D (tnX D) F V s n).1 ∧ hI h' m 35 = nI (yd D (tnX D) F V s n).2.2.1) := by
  obtain ⟨w1, w2, w3, w4, w5, w6, w7, w8, w9, -⟩ := id W
  have Rk : ∀ {h' : Hp}, Fk (sZ m) h h' → RepQ h' q D := fun hF => R.fk hF (fun i k hi e => by rcases e with e | e <;> omega)
  have hqk : ∀ {h' : Hp}, Fk (sZ m) h h' → hR h' m 3 = some q := fun hF => by rw [hF.2.2.2.1]; exact hq
  unfold f_m_yearsAll
  refine ok_gd hm.1 (ok_bd (ok_mono (ok_m_works hm v) ?_))
  intro _ h1 hx
  obtain ⟨hF1, v1⟩ := hx
  refine ok_lt (ok_gd (hm.fk hF1).1 (ok_lt (ok_lt ?_)))
  have hF2 : Fk (sZ m) h (uI h1 m 35 0) := (hF1.mono (fun a k => sZ_X)).trans (fk_uI (Or.inl ⟨rfl, Or.inr (Or.inr rfl)⟩))
  have v2 : RepX (uI h1 m 35 0) (m + 3) V := v1.fk (fk_uI (S := fun a k => a = m ∧ k = 35) ⟨rfl, rfl⟩) (fun k e => by omega)
  refine ok_up n (fun d st h' => st = (m, nI n, xI F, nI (yd D (tnX D) F V s d).2.1, nI (yd D (tnX D) F V s d).2.2.2, nI d) ∧ Fk (sZ m) h h' ∧ RepX h' (m + 3) (yd D (tnX D) F V s d).1 ∧ hI h' m 35 = nI (yd D (tnX D) F V s d).2.2.1) ?_ FU 0 _ _ (Nat.zero_le _) ⟨rfl, hF2, v2, hI_uIs⟩ (by show _ < 10000; omega)
  intro k d st h' hd hI kk
  obtain ⟨rfl, hF3, v3, g35⟩ := hI
  have hm3 := hm.fk hF3
  show Ok (b_m_yearsAll_18 k m (nI n) (xI F) (nI (yd D (tnX D) F V s d).2.1) (nI (yd D (tnX D) F V s d).2.2.2) (nI d) h') _
  unfold b_m_yearsAll_18
  refine ok_ite (fun c => ?_) (fun c => ?_)
  · have e : d = n := by
      have := (nI_leI (by omega) (by omega)).mp c
      omega
    subst e
    exact ok_ret ⟨rfl, hF3, v3, g35⟩
  · have hl : d < n := by
      rcases Nat.lt_or_ge d n with e | e
      · exact e
      · exact absurd (nI_le e (by omega)) c
    have hwd : WfN D (yd D (tnX D) F V s d).1 (n - d) := yd_wf _ (fun U k g => g.tnX_ W) W F d (by rw [show n - d + d = n by omega]; exact hv)
    have hwd1 : WfN D (tnX D (yd D (tnX D) F V s d).1) (n - d - 1) := WfN.tnX_ W (by rw [show n - d - 1 + 1 = n - d by omega]; exact hwd)
    have hsd := yd_s (D := D) (V := V) (tnX D) F hs d
    have hbd := yd_b (D := D) (V := V) (s := s) (tnX D) F d
    refine ok_gd hm3.1 (ok_bd (ok_mono (ok_m_aTurn hm3 (hqk hF3) hqm (Rk hF3) W v3 hwd.wf) ?_))
    intro _ h4 hx4
    obtain ⟨-, hF4, v4⟩ := hx4
    have g354 : hI h4 m 35 = nI (yd D (tnX D) F V s d).2.2.1 := by
      rw [(hF4.2.2.2.2 m 35 (fun e => by rcases e with e | e <;> omega)).1]
      exact g35
    have hF5 : Fk (sZ m) h h4 := hF3.trans (hF4.mono (fun a k => sZ_X))
    refine ok_lt ?_
    generalize hU : tnX D (yd D (tnX D) F V s d).1 = U at v4 hwd1
    generalize hS : (yd D (tnX D) F V s d).2.1 = s1 at hsd
    have hnext : yd D (tnX D) F V s (d + 1) = ((yw D U s1 (dW D)).1, (yw D U s1 (dW D)).2.1, (yd D (tnX D) F V s d).2.2.1 + (yw D U s1 (dW D)).2.2, (yd D (tnX D) F V s d).2.2.2 + onF D (yw D U s1 (dW D)).1 F) := by
      rw [← hU, ← hS]
      rfl
    have hmul : dW D * d ≤ 5 * 400 := Nat.mul_le_mul w1 (by omega)
    refine ok_up (dW D) (fun i st h' => st = (m, nI n, xI F, nI (yw D U s1 i).2.1, nI (yd D (tnX D) F V s d).2.2.2, nI d, nI i) ∧ Fk (sZ m) h h' ∧ RepX h' (m + 3) (yw D U s1 i).1 ∧ hI h' m 35 = nI ((yd D (tnX D) F V s d).2.2.1 + (yw D U s1 i).2.2)) ?_ FU 0 _ _ (Nat.zero_le _) ⟨rfl, hF5, v4, g354⟩ (by show _ < 10000; omega)
    intro k2 i st h6 hi hI6 kk2
    obtain ⟨rfl, hF6, v6, g6⟩ := hI6
    have hm6 := hm.fk hF6
    have R6 := Rk hF6
    have hq6 := hqk hF6
    have hw6 : WfN D (yw D U s1 i).1 (n - d - 1) := yw_wf W hwd1 i hi
    have hs6 := yw_s (D := D) (V := U) hsd i
    have hc6 := yw_c (D := D) (V := U) (s := s1) i
    show Ok (b_m_yearsAll_32 k k2 m (nI n) (xI F) (nI (yw D U s1 i).2.1) (nI (yd D (tnX D) F V s d).2.2.2) (nI d) (nI i) h6) _
    unfold b_m_yearsAll_32 b_m_yearsAll_121 b_m_yearsAll_122 b_m_yearsAll_96
    refine ok_gd hm6.1 (ok_bR hq6 (ok_gd R6.1.1 (ok_lt ?_)))
    rw [R6.2.1.2.2.1]
    refine ok_ite (fun c2 => ?_) (fun c2 => ?_)
    · have e : i = dW D := by
        have := (nI_leI (by omega) (by omega)).mp c2
        omega
      subst e
      have fin : ∀ x : Int32, x = nI ((yd D (tnX D) F V s d).2.2.2 + onF D (yw D U s1 (dW D)).1 F) → Ok (k (m, nI n, xI F, nI (yw D U s1 (dW D)).2.1, x, nI d + 1) h6) (fun x h' => x = nI (yd D (tnX D) F V s n).2.2.2 ∧ Fk (sZ m) h h' ∧ RepX h' (m + 3) (yd D (tnX D) F V s n).1 ∧ hI h' m 35 = nI (yd D (tnX D) F V s n).2.2.1) := by
        intro x hx
        refine kk _ _ hl ?_
        rw [hnext, hx, nI_1]
        exact ⟨rfl, hF6, v6, g6⟩
      cases F with
      | zero =>
        refine ok_ite (fun c3 => ok_lt (fin _ ?_)) (fun c3 => absurd rfl c3)
        rw [Int32.add_zero]
        rfl
      | succ f =>
        refine ok_ite (fun c3 => absurd c3 (nI_nm1 (t := f) (by omega))) (fun c3 => ok_gd hm6.1 ?_)
        refine ok_bde (e_m_isOn hm6 hq6 R6 W v6 hw6.wf (f := f) (by omega)) (ok_ite (fun c4 => ok_lt (fin _ ?_)) (fun c4 => ok_lt (fin _ ?_)))
        · rw [Int32.add_zero]
          show _ = nI (_ + (if isOnB D (yw D U s1 (dW D)).1 f = true then 1 else 0))
          rw [(bI_z _).mp c4]
          rfl
        · have c5 : isOnB D (yw D U s1 (dW D)).1 f = true := by
            cases e : isOnB D (yw D U s1 (dW D)).1 f with
            | true => rfl
            | false => exact absurd ((bI_z _).mpr e) c4
          rw [nI_1]
          show _ = nI (_ + (if isOnB D (yw D U s1 (dW D)).1 f = true then 1 else 0))
          rw [c5]
          rfl
    · have hl2 : i < dW D := by
        rcases Nat.lt_or_ge i (dW D) with e | e
        · exact e
        · exact absurd (nI_le e (by omega)) c2
      refine ok_gd (by decide) (ok_lt (ok_gd (by decide) (ok_gd hm6.1 (ok_bR hq6 (ok_gd R6.1.1 (ok_lt ?_))))))
      rw [l_drw hs6, R6.2.1.2.1]
      have hdr := drw_lt (yw D U s1 i).2.1
      have e100 : irm (nI (drw (yw D U s1 i).2.1)) 100 = nI (drw (yw D U s1 i).2.1 % 100) := irm_nI (d := 100) (by omega) (by decide) (by decide)
      rw [e100]
      refine ok_ite (fun c3 => ?_) (fun c3 => ?_)
      · have c4 : drw (yw D U s1 i).2.1 % 100 < dSl D := (nI_ltI (by omega) (by omega)).mp c3
        have hyw : yw D U s1 (i + 1) = (slV D (yw D U s1 i).1 i, drw (yw D U s1 i).2.1, (yw D U s1 i).2.2 + 1) := if_pos c4
        refine ok_gd hm6.1 (ok_bd (ok_mono (ok_m_slips1 hm6 hq6 R6 W v6 hw6.wf hl2) ?_))
        intro _ h7 hx7
        obtain ⟨hF7, v7, -⟩ := hx7
        have hF8 : Fk (sZ m) h h7 := hF6.trans (hF7.mono (fun a k => sZ_Y))
        have hm7 := hm.fk hF8
        have g7 : hI h7 m 35 = nI ((yd D (tnX D) F V s d).2.2.1 + (yw D U s1 i).2.2) := by
          rw [(hF7.2.2.2.2 m 35 (fun e => by rcases e with e | e <;> omega)).1]
          exact g6
        refine ok_gd hm7.1 (ok_lt (ok_gd hm7.1 (ok_lt (kk2 _ _ hl2 ?_))))
        rw [hyw, g7, nI_1, nI_1]
        exact ⟨rfl, hF8.trans (fk_uI (Or.inl ⟨rfl, Or.inr (Or.inr rfl)⟩)), v7.fk (fk_uI (S := fun a k => a = m ∧ k = 35) ⟨rfl, rfl⟩) (fun k e => by omega), hI_uIs⟩
      · have c4 : ¬ drw (yw D U s1 i).2.1 % 100 < dSl D := fun e => c3 (nI_lt e (by omega))
        have hyw : yw D U s1 (i + 1) = ((yw D U s1 i).1, drw (yw D U s1 i).2.1, (yw D U s1 i).2.2) := if_neg c4
        refine kk2 _ _ hl2 ?_
        rw [hyw, nI_1]
        exact ⟨rfl, hF6, v6, g6⟩
