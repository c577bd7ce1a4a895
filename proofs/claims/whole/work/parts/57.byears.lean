/-! years at the class -/
theorem Fm.k {S : Nat → Prop} {h h' : Hp} (F : Fm S h h') : Fk (fun a _ => S a) h h' := ⟨F.1, F.2.1, F.2.2.1, F.2.2.2.1, fun a k ha => ⟨congrFun (F.2.2.2.2 a ha).1 k, congrFun (F.2.2.2.2 a ha).2 k⟩⟩
theorem Fk.m {S : Nat → Nat → Prop} {h h' : Hp} (F : Fk S h h') : Fm (fun a => ∃ k, S a k) h h' := ⟨F.1, F.2.1, F.2.2.1, F.2.2.2.1, fun a ha => ⟨funext fun k => (F.2.2.2.2 a k (fun e => ha ⟨k, e⟩)).1, funext fun k => (F.2.2.2.2 a k (fun e => ha ⟨k, e⟩)).2⟩⟩
theorem RepO.fk {S : Nat → Nat → Prop} {h h' : Hp} {o : Nat} {D : DD} (R : RepO h o D) (F : Fk S h h') (hS' : ∀ i k, i < 15 → ¬ S (o + i) k) (hW : dW D ≤ 5) : RepO h' o D := R.fm F.m (fun i hi e => by obtain ⟨k, e⟩ := e; exact hS' i k hi e) hW
theorem RepV.fk {S : Nat → Nat → Prop} {h h' : Hp} {r : Nat} {V : Nat → Nat} (v : RepV h r V) (F : Fk S h h') (hS' : ∀ k, ¬ S r k) : RepV h' r V := ⟨by rw [F.2.1]; exact v.1, fun k hk => by rw [(F.2.2.2.2 r k (hS' k)).1]; exact v.2 k hk⟩
theorem fk_uC {S : Nat → Nat → Prop} {h : Hp} {a0 a sp dp n : Nat} (ha : ∀ k, S a k) : Fk S h (uC h a0 a sp dp n) := ⟨rfl, rfl, rfl, rfl, fun b k hb => ⟨if_neg (fun e => hb (by rw [e]; exact ha k)), rfl⟩⟩
theorem RepV.cpy {h : Hp} {a r : Nat} {V : Nat → Nat} (v : RepV h a V) (hr : hS h r = some (.inr (0, 8))) : RepV (uC h a r 0 0 8) r V := by
  refine ⟨hr, fun k hk => ?_⟩
  show (if r = r then va_cpy (hI h a) (hI h r) 0 0 8 k else _) = _
  rw [if_pos rfl, pk_cpy_in (Nat.zero_le _) (by omega), show 0 + (k - 0) = k by omega]
  exact v.2 k hk
theorem cpok_8 {h : Hp} {a r : Nat} (ha : hS h a = some (.inr (0, 8))) (hr : hS h r = some (.inr (0, 8))) : cpok h a r 0 0 8 := ⟨8, 8, ha, hr, by decide, by decide, by decide, by decide, by decide⟩
/-- what liveYears writes: the trial row and the slips -/
def sT (x r : Nat) (a k : Nat) : Prop := (a = x ∧ k = 7) ∨ a = r
set_option maxHeartbeats 1000000 in
theorem ok_B_liveYears {h : Hp} {x o a r n s F : Nat} {D : DD} {V : Nat → Nat} (hx : hS h x = some (.inl 0)) (h3 : hR h x 3 = some o) (h5 : hR h x 5 = some a) (h6 : hR h x 6 = some r) (hr : hS h r = some (.inr (0, 8))) (ho : ∀ i, i < 15 → o + i ≠ r ∧ o + i ≠ x) (hxr : r ≠ x) (R : RepO h o D) (W : Wf D) (v : RepV h a V) (hv : WfN D V n) (hn : n ≤ 400) (hs : s < 65537) (hF : F ≤ dF D) : Ok (f_B_liveYears x (nI s) (nI n) (xI F) h) (fun y h' => y = nI (yd D (tnV D) F V s n).2.2.2 ∧ Fk (sT x r) h h' ∧ RepV h' r (yd D (tnV D) F V s n).1 ∧ hI h' x 7 = nI (yd D (tnV D) F V s n).2.2.1) := by
  obtain ⟨w1, w2, w3, w4, w5, w6, w7, w8, w9, -⟩ := id W
  have Rk : ∀ {h' : Hp}, Fk (sT x r) h h' → RepO h' o D := fun hF => R.fk hF (fun i k hi e => by have g := ho i hi; rcases e with e | e; exact g.2 e.1; exact g.1 e) w1
  have hk : ∀ {h' : Hp}, Fk (sT x r) h h' → hS h' x = some (.inl 0) ∧ hR h' x 3 = some o ∧ hR h' x 6 = some r := fun hF => by rw [hF.2.1, hF.2.2.2.1]; exact ⟨hx, h3, h6⟩
  have hor : ∀ i, i < 15 → o + i ≠ r := fun i hi => (ho i hi).1
  have cT : ∀ {h1 h2 : Hp}, Fm (fun a => a = r) h1 h2 → Fk (sT x r) h1 h2 := fun F => F.k.mono (fun a k e => Or.inr e)
  unfold f_B_liveYears
  have e0 : (0 : Int32).toNatClampNeg = 0 := by decide
  have e8 : (8 : Int32).toNatClampNeg = 8 := by decide
  rw [e0, e8]
  refine ok_gd hx (ok_bR h5 (ok_gd hx (ok_bR h6 (ok_gd (cpok_8 v.1 hr) (ok_lt (ok_gd hx (ok_lt (ok_lt (ok_lt ?_)))))))))
  have hF1 : Fk (sT x r) h (uC h a r 0 0 8) := fk_uC (fun k => Or.inr rfl)
  have v1 := v.cpy hr
  have hF2 : Fk (sT x r) h (uI (uC h a r 0 0 8) x 7 0) := hF1.trans (fk_uI (Or.inl ⟨rfl, rfl⟩))
  have v2 : RepV (uI (uC h a r 0 0 8) x 7 0) r V := v1.fk (fk_uI (S := fun a k => a = x ∧ k = 7) ⟨rfl, rfl⟩) (fun k e => hxr e.1)
  refine ok_up n (fun d st h' => st = (x, nI n, xI F, nI (yd D (tnV D) F V s d).2.2.2, nI (yd D (tnV D) F V s d).2.1, nI d) ∧ Fk (sT x r) h h' ∧ RepV h' r (yd D (tnV D) F V s d).1 ∧ hI h' x 7 = nI (yd D (tnV D) F V s d).2.2.1) ?_ FU 0 _ _ (Nat.zero_le _) ⟨rfl, hF2, v2, hI_uIs⟩ (by show _ < 10000; omega)
  intro k d st h' hd hI kk
  obtain ⟨rfl, hF3, v3, g35⟩ := hI
  obtain ⟨hx3, ho3, hr3⟩ := hk hF3
  show Ok (b_B_liveYears_29 k x (nI n) (xI F) (nI (yd D (tnV D) F V s d).2.2.2) (nI (yd D (tnV D) F V s d).2.1) (nI d) h') _
  unfold b_B_liveYears_29
  refine ok_ite (fun c => ?_) (fun c => ?_)
  · have e : d = n := by
      have := (nI_leI (by omega) (by omega)).mp c
      omega
    subst e
    exact ok_ret ⟨rfl, hF3, v3, g35⟩
  · have hl : d < n := by
      rcases Nat.lt_or_ge d n with e | e
      · exact e
      · exact absurd (nI_le e (by omega)) c
    have hwd : WfN D (yd D (tnV D) F V s d).1 (n - d) := yd_wf _ (fun U k g => g.tnV_ W) W F d (by rw [show n - d + d = n by omega]; exact hv)
    have hwd1 : WfN D (tnV D (yd D (tnV D) F V s d).1) (n - d - 1) := WfN.tnV_ W (by rw [show n - d - 1 + 1 = n - d by omega]; exact hwd)
    have hsd := yd_s (D := D) (V := V) (tnV D) F hs d
    have hbd := yd_b (D := D) (V := V) (s := s) (tnV D) F d
    refine ok_gd hx3 (ok_bR ho3 (ok_gd hx3 (ok_bR hr3 (ok_gd (Rk hF3).1.1 (ok_bd (ok_mono (ok_O_goTurn W (Rk hF3) v3 hwd.wf hor) ?_))))))
    intro _ h4 hx4
    obtain ⟨-, hF4, v4⟩ := hx4
    have g354 : hI h4 x 7 = nI (yd D (tnV D) F V s d).2.2.1 := by
      rw [(hF4.2.2.2.2 x (fun e => hxr e.symm)).1]
      exact g35
    have hF5 : Fk (sT x r) h h4 := hF3.trans (cT hF4)
    refine ok_lt ?_
    generalize hU : tnV D (yd D (tnV D) F V s d).1 = U at v4 hwd1
    generalize hS : (yd D (tnV D) F V s d).2.1 = s1 at hsd
    have hnext : yd D (tnV D) F V s (d + 1) = ((yw D U s1 (dW D)).1, (yw D U s1 (dW D)).2.1, (yd D (tnV D) F V s d).2.2.1 + (yw D U s1 (dW D)).2.2, (yd D (tnV D) F V s d).2.2.2 + onF D (yw D U s1 (dW D)).1 F) := by
      rw [← hU, ← hS]
      rfl
    refine ok_up (dW D) (fun i st h' => st = (x, nI n, xI F, nI (yd D (tnV D) F V s d).2.2.2, nI (yw D U s1 i).2.1, nI d, nI i) ∧ Fk (sT x r) h h' ∧ RepV h' r (yw D U s1 i).1 ∧ hI h' x 7 = nI ((yd D (tnV D) F V s d).2.2.1 + (yw D U s1 i).2.2)) ?_ FU 0 _ _ (Nat.zero_le _) ⟨rfl, hF5, v4, g354⟩ (by show _ < 10000; omega)
    intro k2 i st h6 hi hI6 kk2
    obtain ⟨rfl, hF6, v6, g6⟩ := hI6
    obtain ⟨hx6, ho6, hr6⟩ := hk hF6
    have R6 := Rk hF6
    have hw6 : WfN D (yw D U s1 i).1 (n - d - 1) := yw_wf W hwd1 i hi
    have hs6 := yw_s (D := D) (V := U) hsd i
    have hc6 := yw_c (D := D) (V := U) (s := s1) i
    show Ok (b_B_liveYears_50 k k2 x (nI n) (xI F) (nI (yd D (tnV D) F V s d).2.2.2) (nI (yw D U s1 i).2.1) (nI d) (nI i) h6) _
    unfold b_B_liveYears_50 b_B_liveYears_143 b_B_liveYears_114
    refine ok_gd hx6 (ok_bR ho6 (ok_gd R6.1.1 (ok_lt ?_)))
    rw [R6.2.1.2.2.1]
    refine ok_ite (fun c2 => ?_) (fun c2 => ?_)
    · have e : i = dW D := by
        have := (nI_leI (by omega) (by omega)).mp c2
        omega
      subst e
      have fin : ∀ y : Int32, y = nI ((yd D (tnV D) F V s d).2.2.2 + onF D (yw D U s1 (dW D)).1 F) → Ok (k (x, nI n, xI F, y, nI (yw D U s1 (dW D)).2.1, nI d + 1) h6) (fun y h' => y = nI (yd D (tnV D) F V s n).2.2.2 ∧ Fk (sT x r) h h' ∧ RepV h' r (yd D (tnV D) F V s n).1 ∧ hI h' x 7 = nI (yd D (tnV D) F V s n).2.2.1) := by
        intro y hy
        refine kk _ _ hl ?_
        rw [hnext, hy, nI_1]
        exact ⟨rfl, hF6, v6, g6⟩
      cases F with
      | zero => exact ok_ite (fun c3 => fin _ rfl) (fun c3 => absurd rfl c3)
      | succ f =>
        refine ok_ite (fun c3 => absurd c3 (nI_nm1 (t := f) (by omega))) (fun c3 => ok_gd hx6 (ok_bR ho6 (ok_gd hx6 (ok_bR hr6 (ok_gd R6.1.1 ?_)))))
        refine ok_bde (e_O_isOn W R6 v6 hw6.wf (f := f) (by omega)) (ok_ite (fun c4 => fin _ ?_) (fun c4 => fin _ ?_))
        · show _ = nI (_ + (if isOnB D (yw D U s1 (dW D)).1 f = true then 1 else 0))
          rw [(bI_z _).mp c4]
          rfl
        · have c5 : isOnB D (yw D U s1 (dW D)).1 f = true := by
            cases e : isOnB D (yw D U s1 (dW D)).1 f with
            | true => rfl
            | false => exact absurd ((bI_z _).mpr e) c4
          rw [nI_1]
          show _ = nI (_ + (if isOnB D (yw D U s1 (dW D)).1 f = true then 1 else 0))
          rw [c5]
          rfl
    · have hl2 : i < dW D := by
        rcases Nat.lt_or_ge i (dW D) with e | e
        · exact e
        · exact absurd (nI_le e (by omega)) c2
      refine ok_gd (by decide) (ok_lt (ok_gd (by decide) (ok_gd hx6 (ok_bR ho6 (ok_gd R6.1.1 (ok_lt ?_))))))
      rw [i_drw hs6, R6.2.1.2.1]
      have hdr := drw_lt (yw D U s1 i).2.1
      have e100 : irm (nI (drw (yw D U s1 i).2.1)) 100 = nI (drw (yw D U s1 i).2.1 % 100) := irm_nI (d := 100) (by omega) (by decide) (by decide)
      rw [e100]
      refine ok_ite (fun c3 => ?_) (fun c3 => ?_)
      · have c4 : ¬ drw (yw D U s1 i).2.1 % 100 < dSl D := fun e => by
          have := (nI_leI (by omega) (by omega)).mp c3
          omega
        have hyw : yw D U s1 (i + 1) = ((yw D U s1 i).1, drw (yw D U s1 i).2.1, (yw D U s1 i).2.2) := if_neg c4
        refine kk2 _ _ hl2 ?_
        rw [hyw, nI_1]
        exact ⟨rfl, hF6, v6, g6⟩
      · have c4 : drw (yw D U s1 i).2.1 % 100 < dSl D := by
          rcases Nat.lt_or_ge (drw (yw D U s1 i).2.1 % 100) (dSl D) with e | e
          · exact e
          · exact absurd (nI_le e (by omega)) c3
        have hyw : yw D U s1 (i + 1) = (slV D (yw D U s1 i).1 i, drw (yw D U s1 i).2.1, (yw D U s1 i).2.2 + 1) := if_pos c4
        refine ok_gd hx6 (ok_bR ho6 (ok_gd hx6 (ok_bR hr6 (ok_gd R6.1.1 (ok_bd (ok_mono (ok_O_slip W R6 v6 hw6.wf hl2) ?_))))))
        intro _ h7 hx7
        obtain ⟨hF7, v7⟩ := hx7
        have hF8 : Fk (sT x r) h h7 := hF6.trans (cT hF7)
        obtain ⟨hx8, -, -⟩ := hk hF8
        have g7 : hI h7 x 7 = nI ((yd D (tnV D) F V s d).2.2.1 + (yw D U s1 i).2.2) := by
          rw [(hF7.2.2.2.2 x (fun e => hxr e.symm)).1]
          exact g6
        refine ok_gd hx8 (ok_lt (ok_gd hx8 (ok_lt (kk2 _ _ hl2 ?_))))
        rw [hyw, g7, nI_1, nI_1]
        exact ⟨rfl, hF8.trans (fk_uI (Or.inl ⟨rfl, rfl⟩)), v7.fk (fk_uI (S := fun a k => a = x ∧ k = 7) ⟨rfl, rfl⟩) (fun k e => hxr e.1), hI_uIs⟩
