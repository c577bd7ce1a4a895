/-! the feasts that are on, as bits, on both sides -/
def orB (P : Nat → Bool) : Nat → Int32
  | 0 => 0
  | i + 1 => if P i = true then orB P i ||| ((1 : Int32) <<< (nI i &&& 31)) else orB P i
theorem orB_congr {P Q : Nat → Bool} (e : ∀ i, P i = Q i) (n : Nat) : orB P n = orB Q n := by
  rw [show P = Q from funext e]
section ON
variable {h : Hp} {o r m q : Nat} {D : DD} {V : Nat → Nat}
theorem e_O_feastsOn (W : Wf D) (R : RepO h o D) (v : RepV h r V) (hv : WfV D V) : f_O_feastsOn o r h = some (orB (isOnB D V) (dF D), h) := by
  have w2 := W.2.1
  refine ok_eq ?_
  unfold f_O_feastsOn
  refine ok_lt (ok_lt (ok_up (dF D) (fun i s h' => s = (o, r, orB (isOnB D V) i, nI i) ∧ h' = h) ?_ FU 0 _ _ (Nat.zero_le _) ⟨rfl, rfl⟩ (by show _ < 10000; omega)))
  intro k i s h' hi hI kk
  obtain ⟨rfl, rfl⟩ := hI
  show Ok (b_O_feastsOn_4 k o r (orB (isOnB D V) i) (nI i) h') _
  unfold b_O_feastsOn_4 b_O_feastsOn_27
  refine ok_gd R.1.1 (ok_lt ?_)
  rw [R.2.1.2.2.2.1]
  refine ok_ite (fun c => ?_) (fun c => ?_)
  · have e : i = dF D := by
      have := (nI_leI (by omega) (by omega)).mp c
      omega
    subst e
    exact ok_ret ⟨rfl, rfl⟩
  · have hl : i < dF D := by
      rcases Nat.lt_or_ge i (dF D) with e | e
      · exact e
      · exact absurd (nI_le e (by omega)) c
    refine ok_gd R.1.1 (ok_bde (e_O_isOn W R v hv hl) (ok_ite (fun c1 => kk _ _ hl ⟨?_, rfl⟩) (fun c1 => ok_lt (kk _ _ hl ⟨?_, rfl⟩))))
    · rw [nI_1]
      show _ = (o, r, (if isOnB D V i = true then _ else orB (isOnB D V) i), _)
      rw [if_neg (by rw [(bI_z _).mp c1]; simp)]
    · have c5 : isOnB D V i = true := by
        cases e : isOnB D V i with
        | true => rfl
        | false => exact absurd ((bI_z _).mpr e) c1
      rw [nI_1]
      show _ = (o, r, (if isOnB D V i = true then orB (isOnB D V) i ||| ((1 : Int32) <<< (nI i &&& 31)) else orB (isOnB D V) i), _)
      rw [if_pos c5]
theorem ok_m_onNow (hm : LayM h m) (hq : hR h m 3 = some q) (hqm : m + 14 ≤ q) (R : RepQ h q D) (W : Wf D) (v : RepX h (m + 2) V) (hv : WfV D V) : Ok (f_m_onNow m h) (fun x h' => x = orB (isOnB D V) (dF D) ∧ Fk (sX m) h h') := by
  have w2 := W.2.1
  unfold f_m_onNow
  refine ok_gd hm.1 (ok_bd (ok_mono (ok_m_works hm v) ?_))
  intro _ h1 hx
  obtain ⟨hF1, v1⟩ := hx
  have hm1 := hm.fk hF1
  have hq1 : hR h1 m 3 = some q := by rw [hF1.2.2.2.1]; exact hq
  have R1 : RepQ h1 q D := R.fk hF1 (fun i k hi e => by rcases e with e | e <;> omega)
  refine ok_lt (ok_lt (ok_up (dF D) (fun i s h' => s = (m, orB (isOnB D V) i, nI i) ∧ h' = h1) ?_ FU 0 _ _ (Nat.zero_le _) ⟨rfl, rfl⟩ (by show _ < 10000; omega)))
  intro k i s h' hi hI kk
  obtain ⟨rfl, rfl⟩ := hI
  show Ok (b_m_onNow_8 k m (orB (isOnB D V) i) (nI i) h') _
  unfold b_m_onNow_8 b_m_onNow_35
  refine ok_gd hm1.1 (ok_bR hq1 (ok_gd R1.1.1 (ok_lt ?_)))
  rw [R1.2.1.2.2.2.2.1]
  refine ok_ite (fun c => ?_) (fun c => ?_)
  · have e : i = dF D := by
      have := (nI_leI (by omega) (by omega)).mp c
      omega
    subst e
    exact ok_ret ⟨rfl, hF1⟩
  · have hl : i < dF D := by
      rcases Nat.lt_or_ge i (dF D) with e | e
      · exact e
      · exact absurd (nI_le e (by omega)) c
    refine ok_gd hm1.1 (ok_bde (e_m_isOn hm1 hq1 R1 W v1 hv hl) (ok_ite (fun c1 => ok_lt (kk _ _ hl ⟨?_, rfl⟩)) (fun c1 => ok_lt (kk _ _ hl ⟨?_, rfl⟩))))
    · rw [nI_1]
      show _ = (m, (if isOnB D V i = true then orB (isOnB D V) i ||| ((1 : Int32) <<< (nI i &&& 31)) else orB (isOnB D V) i), _)
      rw [if_neg (by rw [(bI_z _).mp c1]; simp), Int32.or_zero]
    · have c5 : isOnB D V i = true := by
        cases e : isOnB D V i with
        | true => rfl
        | false => exact absurd ((bI_z _).mpr e) c1
      rw [nI_1]
      show _ = (m, (if isOnB D V i = true then orB (isOnB D V) i ||| ((1 : Int32) <<< (nI i &&& 31)) else orB (isOnB D V) i), _)
      rw [if_pos c5]
end ON
