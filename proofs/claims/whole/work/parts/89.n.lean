/-! the reference's reader: its words, in steps -/
def GC (h : Hp) (m : Nat) (X : TX) (c : CU) : Prop := c.1 < 8 ∧ (c.1 = 0 → TokM h m X c.2 ∧ hI h m 12 = 0) ∧ (c.1 ≠ 0 → hI h m 9 = 6 ∧ hI h m 12 = nI c.1 ∧ hI h m 13 = nI c.2)
def GS (h0 h : Hp) (m q : Nat) (X : TX) (c : CU) : Prop := Fr (SM m) h0 h ∧ GK h m q X ∧ GC h m X c
def NmM (h : Hp) (q : Nat) (N : NN) : Prop := hI h q 9 = nI N.1 ∧ N.1 ≤ 13 ∧ ∀ k, k < N.1 → hL h (q + 15) k = lN (N.2.1 k) ∧ N.2.1 k < 32 ^ 8 ∧ hI h (q + 16) k = nI (N.2.2.1 k) ∧ N.2.2.1 k < 3 ∧ hI h (q + 17) k = nI (N.2.2.2 k)
theorem NmM.fr {S : Nat → Nat → Prop} {h h' : Hp} {q : Nat} {N : NN} (P : NmM h q N) (F : Fr S h h') (h1 : ¬ S q 9) (h3 : ∀ k, ¬ S (q + 15) k) (h4 : ∀ k, ¬ S (q + 16) k) (h5 : ∀ k, ¬ S (q + 17) k) : NmM h' q N := by
  obtain ⟨a, b, d⟩ := P
  refine ⟨by rw [(F.2.2.2 _ _ h1).1]; exact a, b, fun k hk => ?_⟩
  rw [(F.2.2.2 _ _ (h3 k)).2.1, (F.2.2.2 _ _ (h4 k)).1, (F.2.2.2 _ _ (h5 k)).1]
  exact d k hk
theorem NmM.gs {h0 h : Hp} {m q : Nat} {X : TX} {N : NN} {c : CU} (P : NmM h0 q N) (R : GS h0 h m q X c) : NmM h q N := by
  have := R.2.1.2.2.2.2.2.2.2.2.2
  exact P.fr R.1 (by unfold SM; omega) (fun k => by unfold SM; omega) (fun k => by unfold SM; omega) (fun k => by unfold SM; omega)
theorem Fr.sy {S : Nat → Nat → Prop} {h h' : Hp} (F : Fr S h h') : Fr S h' h := ⟨F.1.symm, F.2.1.symm, F.2.2.1.symm, fun a k e => ⟨(F.2.2.2 a k e).1.symm, (F.2.2.2 a k e).2.1.symm, (F.2.2.2 a k e).2.2.symm⟩⟩
theorem NmM.mv {h0 h h1 : Hp} {m q : Nat} {X : TX} {N : NN} {c c1 : CU} (P : NmM h q N) (R : GS h0 h m q X c) (R1 : GS h0 h1 m q X c1) : NmM h1 q N := by
  have := R.2.1.2.2.2.2.2.2.2.2.2
  exact (P.fr R.1.sy (by unfold SM; omega) (fun k => by unfold SM; omega) (fun k => by unfold SM; omega) (fun k => by unfold SM; omega)).gs R1
theorem mS_le {s : Nat} (h : s ≤ 5) : mS s ≤ 5 := by
  unfold mS
  split <;> omega
theorem mS_e {s n : Nat} (h : s ≤ 5) (hn : n < 5) : (mS s = n + 1) ↔ s = n := by
  unfold mS
  split <;> omega
theorem TokM.fr {S : Nat → Nat → Prop} {h h' : Hp} {m a : Nat} {X : TX} (P : TokM h m X a) (F : Fr S h h') (hs : ∀ k, (8 ≤ k ∧ k ≤ 11) ∨ k = 14 → ¬ S m k) : TokM h' m X a := by
  obtain ⟨a1, a2, a3, a4, a5, a6⟩ := P
  have e : ∀ k, (8 ≤ k ∧ k ≤ 11) ∨ k = 14 → hI h' m k = hI h m k := fun k h1 => (F.2.2.2 _ _ (hs k h1)).1
  refine ⟨a1, by rw [e 10 (by decide)]; exact a2, fun z => by rw [e 8 (by decide)]; exact a3 z, by rw [e 9 (by decide)]; exact a4, fun z => by rw [e 11 (by decide)]; exact a5 z, fun z => by rw [(F.2.2.2 _ _ (hs 14 (by decide))).2.1]; exact a6 z⟩
section GP
variable {α : Type} {h0 h : Hp} {m q : Nat} {X : TX} {c : CU} {N : NN} {Q : α → Hp → Prop}
theorem GS.s (R : GS h0 h m q X c) : hS h m = some (.inl 11) := R.2.1.1
theorem GS.rb (R : GS h0 h m q X c) : GS h h m q X c := ⟨Fr.rf, R.2⟩
theorem GS.t6 (R : GS h0 h m q X c) : (hI h m 9 = 6) ↔ c.1 ≠ 0 := by
  obtain ⟨-, -, -, z, n⟩ := R
  by_cases e : c.1 = 0
  · have t := (z e).1.2.2.2.1
    have b := mS_le (tS_le (X := X) (a := c.2))
    rw [t]
    refine ⟨fun g => ?_, fun g => absurd e g⟩
    have := (nI_eq (b := 6) (by omega) (by decide)).mp g
    omega
  · exact ⟨fun _ => e, fun _ => (n e).1⟩
theorem j_st {A B : Option (α × Hp)} (R : GS h0 h m q X c) (t : c.1 ≠ 0 → Ok A Q) (e : c.1 = 0 → Ok B Q) : Ok (if hI h m 9 = 6 then A else B) Q := by
  refine ok_ite (fun g => t (R.t6.mp g)) (fun g => e ?_)
  rcases Nat.eq_zero_or_pos c.1 with z | z
  · exact z
  · exact absurd (R.t6.mpr (by omega)) g
/-- the sort at hand is n -/
theorem j_so {A B : Option (α × Hp)} {n : Nat} {v : Int32} (R : GS h0 h m q X c) (hn : n < 5) (hv : v = nI (n + 1)) (t : c.1 = 0 → tS X c.2 = n → Ok A Q) (e : (c.1 = 0 → tS X c.2 ≠ n) → Ok B Q) : Ok (if hI h m 9 = v then A else B) Q := by
  have b5 := tS_le (X := X) (a := c.2)
  have b := mS_le b5
  obtain ⟨-, -, -, z, w⟩ := R
  subst hv
  by_cases g : c.1 = 0
  · rw [(z g).1.2.2.2.1]
    exact ok_ieq (by omega) (by omega) (fun y => t g ((mS_e b5 hn).mp y)) (fun y => e (fun _ q => y ((mS_e b5 hn).mpr q)))
  · rw [(w g).1]
    refine ok_f (fun y => ?_) (e (fun q => absurd q g))
    have := (nI_eq (a := 6) (by decide) (by omega)).mp y
    omega
theorem j_flaw {f : Unit → Hp → Option (α × Hp)} {n : Nat} {v : Int32} (R : GS h0 h m q X c) (hn : v = nI n) (h1 : 0 < n) (h8 : n < 8) (kk : ∀ h1, GS h0 h1 m q X (cF n c) → Ok (f () h1) Q) : Ok (gd (hS h m = some (.inl 11)) (bd (f_m_flaw m v h) f)) Q := by
  have hs := R.s
  refine ok_gd hs (ok_bd ?_)
  unfold f_m_flaw
  refine ok_gd hs (ok_lt (j_st R (fun e => ok_ret (kk _ (by rw [cF_n e]; exact R))) (fun e => ?_)))
  refine ok_gd hs (ok_lt (ok_gd (by exact hs) (ok_lt (ok_gd (by exact hs) (ok_lt (ok_gd (by exact hs) (ok_lt (ok_ret (kk _ ?_)))))))))
  obtain ⟨F, K, C1, C2, C3⟩ := R
  have F3 : Fr (SM m) h (uI (uI (uI h m 12 v) m 13 (hI (uI h m 12 v) m 10)) m 9 6) := ((fr_uI ⟨rfl, by decide, by decide⟩).trans (fr_uI ⟨rfl, by decide, by decide⟩)).trans (fr_uI ⟨rfl, by decide, by decide⟩)
  refine ⟨F.trans F3, K.sm F3, ?_⟩
  unfold cF
  rw [cG_0 e]
  refine ⟨h8, fun z => absurd z (by show n ≠ 0; omega), fun _ => ⟨hI_uIs, ?_, ?_⟩⟩
  · rw [hI_uIk (by decide), hI_uIk (by decide), hI_uIs, hn]
  · rw [hI_uIk (by decide), hI_uIs, hI_uIk (by decide)]
    exact (C2 e).1.2.1
theorem j_on {f : Unit → Hp → Option (α × Hp)} (R : GS h0 h m q X c) (h5 : c.1 = 0 → tS X c.2 ≠ 5) (kk : ∀ h1, GS h0 h1 m q X (cS X c) → Ok (f () h1) Q) : Ok (gd (hS h m = some (.inl 11)) (bd (f_m_goesOn m h) f)) Q := by
  have hs := R.s
  refine ok_gd hs (ok_bd ?_)
  by_cases e : c.1 = 0
  · obtain ⟨F, K, C1, C2, C3⟩ := id R
    obtain ⟨t, h12⟩ := C2 e
    have tb := tE_b t.1
    refine ok_mono (ok_m_goesOn (b := tE X c.2) K tb.2.1 (t.2.2.1 (h5 e)) (fun g => absurd e (R.t6.mp g))) ?_
    intro _ h1 hx
    obtain ⟨F1, t1⟩ := hx
    refine kk h1 ⟨F.trans (F1.mono (fun _ _ e => SG_SM e)), K.sg F1, ?_⟩
    rw [cS_0 e]
    exact ⟨by show 0 < 8; decide, fun _ => ⟨t1, by rw [(F1.2.2.2 _ _ (by unfold SG; omega)).1]; exact h12⟩, fun z => absurd rfl z⟩
  · unfold f_m_goesOn
    refine ok_gd hs (ok_lt (j_st R (fun _ => ok_ret (kk _ (by rw [cS_n e]; exact R))) (fun z => absurd z e)))
theorem e_m_packed : ∀ k, k < 24 → 0 < k → pacc k (slen.getD k 0) = lN (wk k) := by decide +kernel
theorem e_m_isWord {k : Nat} (R : GS h0 h m q X c) (hk : k < 24) (h0k : 0 < k) : f_m_isWord m k h = some (bI (decide (c.1 = 0) && isW X k c.2), h) := by
  refine ok_eq ?_
  have hs := R.s
  unfold f_m_isWord
  refine ok_gd hs (ok_lt (j_so (n := 1) R (by decide) rfl (fun g y => ?_) (fun g => ?_)))
  · refine ok_gd hs (ok_lt ?_)
    rw [(R.2.2.2.1 g).1.2.2.2.2.2 y]
    unfold f_m_packed
    rw [gd_pos hk, e_m_packed k hk h0k]
    show Ok (if lg_cmp _ _ = 0 then _ else _) _
    have wb := wk_b k hk
    have tb := (tW_cv y).2
    rw [decide_eq_true g, Bool.true_and]
    refine ok_ite (fun z => ok_gd zb1 (ok_ret ⟨?_, rfl⟩)) (fun z => ok_gd zb0 (ok_ret ⟨?_, rfl⟩))
    · have z2 := (pk_lEQ (by omega) (by omega)).mp ((lg_cmp_eq _ _).mp z)
      rw [show isW X k c.2 = true from decide_eq_true ⟨y, z2⟩]
      rfl
    · rw [show isW X k c.2 = false from decide_eq_false (fun w => z ((lg_cmp_eq _ _).mpr (by rw [w.2])))]
      rfl
  · refine ok_gd zb0 (ok_ret ⟨?_, rfl⟩)
    by_cases e : c.1 = 0
    · rw [show isW X k c.2 = false from decide_eq_false (fun w => g e w.1), Bool.and_false]
      rfl
    · rw [decide_eq_false e, Bool.false_and]
      rfl
theorem j_needs {f : Unit → Hp → Option (α × Hp)} (k : Nat) (R : GS h0 h m q X c) (hk : k < 24) (h0k : 0 < k) (kk : ∀ h1, GS h0 h1 m q X (cP X k c) → Ok (f () h1) Q) : Ok (gd (hS h m = some (.inl 11)) (bd (f_m_needs m k h) f)) Q := by
  have hs := R.s
  refine ok_gd hs (ok_bd ?_)
  unfold f_m_needs b_m_needs_13
  refine ok_gd hs (ok_bde (e_m_isWord R hk h0k) ?_)
  by_cases e : c.1 = 0
  · rw [decide_eq_true e, Bool.true_and]
    refine ok_ib (fun g => ?_) (fun g => ?_)
    · refine j_flaw R rfl (by decide) (by decide) (fun h1 R1 => j_on R1 (fun z => absurd z (cF_ne (by decide))) (fun h2 R2 => ok_ret (kk h2 ?_)))
      unfold cP cCk
      rw [g]
      exact R2
    · refine j_on R (fun _ => ?_) (fun h2 R2 => ok_ret (kk h2 ?_))
      · have := (of_decide_eq_true g).1
        omega
      · unfold cP cCk
        rw [if_pos g]
        exact R2
  · rw [decide_eq_false e, Bool.false_and]
    have ee : cP X k c = cS X c := by unfold cP; rw [cCk_n e]
    rw [ee] at kk
    refine ok_t rfl (j_flaw R rfl (by decide) (by decide) (fun h1 R1 => ?_))
    rw [cF_n e] at R1
    exact j_on R1 (fun z => absurd z e) (fun h2 R2 => ok_ret (kk h2 R2))
theorem j_hand {f : Int32 → Hp → Option (α × Hp)} (lo hi : Nat) {v w : Int32} (R : GS h0 h m q X c) (hlo : lo < 2 ^ 31) (hhi : hi < 2 ^ 31) (hv : c.1 = 0 → v = nI lo ∧ w = nI hi) (kk : ∀ r h1, GS h0 h1 m q X (cH X lo hi c) → ((cH X lo hi c).1 = 0 → r = nI (tN X c.2)) → Ok (f r h1) Q) : Ok (gd (hS h m = some (.inl 11)) (bd (f_m_wholeAtHand m v w h) f)) Q := by
  have hs := R.s
  refine ok_gd hs (ok_bd ?_)
  unfold f_m_wholeAtHand b_m_wholeAtHand_33
  have er : ∀ (c' : CU) h1, GS h0 h1 m q X c' → c'.1 ≠ 0 → cH X lo hi c = c' → Ok (gd (hS h1 m = some (.inl 11)) (lt (hI h1 m 9) fun x1 => if x1 = 6 then (some (v, h1)) else (gd (hS h1 m = some (.inl 11)) (lt (hI h1 m 11) fun x2 => some (x2, h1))))) (fun r h => Ok (f r h) Q) := by
    intro c' h1 R1 e ee
    refine ok_gd R1.s (ok_lt (j_st R1 (fun _ => ok_ret (kk _ _ (by rw [ee]; exact R1) (fun z => absurd z (by rw [ee]; exact e)))) (fun z => absurd z e)))
  refine ok_gd hs (ok_lt (j_so (n := 2) R (by decide) rfl (fun g y => ?_) (fun g => ?_)))
  · obtain ⟨rfl, rfl⟩ := hv g
    have hN := tN_lt y
    refine ok_gd hs (ok_lt ?_)
    rw [(R.2.2.2.1 g).1.2.2.2.2.1 y]
    refine ok_bde e_m_in (ok_ib (fun z => ?_) (fun z => ?_))
    · have z' := of_decide_eq_false z
      have z2 : ¬ (lo ≤ tN X c.2 ∧ tN X c.2 ≤ hi) := fun q => z' ⟨nI_le q.1 (by omega), nI_le q.2 hhi⟩
      refine j_flaw R rfl (by decide) (by decide) (fun h1 R1 => er _ h1 R1 (cF_ne (by decide)) ?_)
      unfold cH cCk
      rw [if_pos y, decide_eq_false z2]
      rfl
    · have z' := of_decide_eq_true z
      have z2 : lo ≤ tN X c.2 ∧ tN X c.2 ≤ hi := ⟨(nI_leI hlo (by omega)).mp z'.1, (nI_leI (by omega) hhi).mp z'.2⟩
      have ee : cH X lo hi c = c := by
        unfold cH cCk
        rw [if_pos y, decide_eq_true z2]
        rfl
      refine ok_gd hs (ok_lt (j_st R (fun n => absurd g n) (fun _ => ok_gd hs (ok_lt ?_))))
      rw [(R.2.2.2.1 g).1.2.2.2.2.1 y]
      exact ok_ret (kk _ _ (by rw [ee]; exact R) (fun _ => rfl))
  · refine j_flaw R rfl (by decide) (by decide) (fun h1 R1 => er _ h1 R1 (cF_ne (by decide)) ?_)
    by_cases e : c.1 = 0
    · unfold cH
      rw [if_neg (g e)]
    · rw [cH_n e, cF_n e]
theorem j_whole {f : Int32 → Hp → Option (α × Hp)} (lo hi : Nat) {v w : Int32} (R : GS h0 h m q X c) (hlo : lo < 2 ^ 31) (hhi : hi < 2 ^ 31) (hv : c.1 = 0 → v = nI lo ∧ w = nI hi) (kk : ∀ r h1, GS h0 h1 m q X (cW X lo hi c) → ((cW X lo hi c).1 = 0 → r = nI (tN X c.2)) → Ok (f r h1) Q) : Ok (gd (hS h m = some (.inl 11)) (bd (f_m_readWhole m v w h) f)) Q := by
  refine ok_gd R.s (ok_bd ?_)
  unfold f_m_readWhole
  refine j_hand lo hi R hlo hhi hv (fun r h1 R1 hr => j_on R1 (fun z => ?_) (fun h2 R2 => ok_ret (kk r h2 R2 (fun z => hr (cS_z z)))))
  obtain ⟨z1, z2, -, -, z5⟩ := cH_z z
  rw [z5]
  omega
theorem j_part {f : Int32 → Hp → Option (α × Hp)} (k lo hi : Nat) {v w : Int32} (R : GS h0 h m q X c) (hk : k < 24) (h0k : 0 < k) (hlo : lo < 2 ^ 31) (hhi : hi < 2 ^ 31) (hv : c.1 = 0 → v = nI lo ∧ w = nI hi) (kk : ∀ r h1, GS h0 h1 m q X (cW X lo hi (cP X k c)) → ((cW X lo hi (cP X k c)).1 = 0 → r = nI (tN X (cP X k c).2)) → Ok (f r h1) Q) : Ok (gd (hS h m = some (.inl 11)) (bd (f_m_readPart m k v w h) f)) Q := by
  refine ok_gd R.s (ok_bd ?_)
  unfold f_m_readPart
  refine j_needs k R hk h0k (fun h1 R1 => j_whole lo hi R1 hlo hhi (fun z => hv (cP_z z).1) (fun r h2 R2 hr => ok_ret (kk r h2 R2 hr)))
theorem e_m_isName (R : GS h0 h m q X c) : f_m_isName m h = some (bI (decide (c.1 = 0) && isNm X c.2), h) := by
  refine ok_eq ?_
  have hs := R.s
  unfold f_m_isName
  refine ok_gd hs (ok_lt (j_so (n := 1) R (by decide) rfl (fun g y => ?_) (fun g => ?_)))
  · unfold isNm
    rw [decide_eq_true g, Bool.true_and, decide_eq_true y, Bool.true_and]
    have ew : ∀ k, k < 24 → 0 < k → f_m_isWord m k h = some (bI (isW X k c.2), h) := fun k h1 h2 => by
      rw [e_m_isWord R h1 h2, decide_eq_true g, Bool.true_and]
    refine ok_gd hs (ok_bde (ew 1 (by decide) (by decide)) (ok_ib (fun g1 => ?_) (fun g1 => ok_gd zb0 (ok_ret ⟨by unfold isLn; rw [g1]; rfl, rfl⟩))))
    refine ok_gd hs (ok_bde (ew 4 (by decide) (by decide)) (ok_ib (fun g4 => ?_) (fun g4 => ok_gd zb0 (ok_ret ⟨by unfold isLn; rw [g1, g4]; rfl, rfl⟩))))
    refine ok_gd hs (ok_bde (ew 5 (by decide) (by decide)) (ok_ib (fun g5 => ?_) (fun g5 => ok_gd zb0 (ok_ret ⟨by unfold isLn; rw [g1, g4, g5]; rfl, rfl⟩))))
    refine ok_gd hs (ok_bde (ew 6 (by decide) (by decide)) (ok_ib (fun g6 => ?_) (fun g6 => ok_gd zb0 (ok_ret ⟨by unfold isLn; rw [g1, g4, g5, g6]; rfl, rfl⟩))))
    refine ok_gd hs (ok_bde (ew 7 (by decide) (by decide)) (ok_ib (fun g7 => ?_) (fun g7 => ok_gd zb0 (ok_ret ⟨by unfold isLn; rw [g1, g4, g5, g6, g7]; rfl, rfl⟩))))
    refine ok_gd hs (ok_bde (ew 8 (by decide) (by decide)) (ok_ib (fun g8 => ?_) (fun g8 => ok_gd zb0 (ok_ret ⟨by unfold isLn; rw [g1, g4, g5, g6, g7, g8]; rfl, rfl⟩))))
    refine ok_gd hs (ok_bde (ew 9 (by decide) (by decide)) (ok_ib (fun g9 => ?_) (fun g9 => ok_gd zb0 (ok_ret ⟨by unfold isLn; rw [g1, g4, g5, g6, g7, g8, g9]; rfl, rfl⟩))))
    refine ok_gd hs (ok_bde (ew 10 (by decide) (by decide)) (ok_ib (fun g10 => ?_) (fun g10 => ok_gd zb0 (ok_ret ⟨by unfold isLn; rw [g1, g4, g5, g6, g7, g8, g9, g10]; rfl, rfl⟩))))
    refine ok_gd hs (ok_bde (ew 11 (by decide) (by decide)) (ok_ib (fun g11 => ok_gd zb1 (ok_ret ⟨by unfold isLn; rw [g1, g4, g5, g6, g7, g8, g9, g10, g11]; rfl, rfl⟩)) (fun g11 => ok_gd zb0 (ok_ret ⟨by unfold isLn; rw [g1, g4, g5, g6, g7, g8, g9, g10, g11]; rfl, rfl⟩))))
  · refine ok_gd zb0 (ok_ret ⟨?_, rfl⟩)
    by_cases e : c.1 = 0
    · unfold isNm
      rw [decide_eq_false (g e), Bool.false_and, Bool.and_false]
      rfl
    · rw [decide_eq_false e, Bool.false_and]
      rfl
theorem ok_n_find {w : Int64} (L : LayQ h q) (P : NmM h q N) : Ok (f_n_find q w h) (fun r h' => h' = h ∧ (r = -1 ∨ ∃ k, k < N.1 ∧ r = nI k)) := by
  obtain ⟨p1, p2, p3⟩ := P
  have b1 := L.1
  have d14 : hR h q 24 = some (q + 1 + 14) := L.2.1 14 (by decide)
  have b15 : hS h (q + 1 + 14) = some (.inr (1, 13)) := L.2.2.2.2.2.2.2.2.1
  unfold f_n_find
  refine ok_lt (ok_up N.1 (fun i st h' => st = (q, w, nI i) ∧ h' = h) ?_ FU 0 _ _ (Nat.zero_le _) ⟨rfl, rfl⟩ (by show _ < 10000; omega))
  intro k i st h1 hi hI' kk
  obtain ⟨rfl, rfl⟩ := hI'
  show Ok (b_n_find_2 k q w (nI i) h1) _
  unfold b_n_find_2
  (try unfold QB); (try unfold QM); repeat (first | (with_reducible refine ok_lt ?_) | ((with_reducible refine ok_gd ?_ ?_); first | assumption | exact zb0 | exact zb1 | ((with_reducible apply ai_of) <;> first | assumption | omega | decide) | exact ai_lit (by assumption) (by decide) (by decide) (by decide)) | (refine ok_bR (by assumption) ?_))
  rw [p1]
  refine ok_it hi (by omega) (fun g => ok_ret ⟨rfl, Or.inl rfl⟩) (fun g => ?_)
  (try unfold QB); (try unfold QM); repeat (first | (with_reducible refine ok_lt ?_) | ((with_reducible refine ok_gd ?_ ?_); first | assumption | exact zb0 | exact zb1 | ((with_reducible apply ai_of) <;> first | assumption | omega | decide) | exact ai_lit (by assumption) (by decide) (by decide) (by decide)) | (refine ok_bR (by assumption) ?_))
  refine ok_ite (fun _ => ok_ret ⟨rfl, Or.inr ⟨i, g, rfl⟩⟩) (fun _ => ?_)
  rw [nI_1]
  exact kk _ _ g ⟨rfl, rfl⟩
theorem ok_n_findc {w : Nat} (hw : w < 32 ^ 8) (L : LayQ h q) (P : NmM h q N) : Ok (f_n_find q (lN w) h) (fun r h' => h' = h ∧ r = (if fdn N w 0 < N.1 then nI (fdn N w 0) else -1)) := by
  obtain ⟨p1, p2, p3⟩ := P
  have b1 := L.1
  have d14 : hR h q 24 = some (q + 1 + 14) := L.2.1 14 (by decide)
  have b15 : hS h (q + 1 + 14) = some (.inr (1, 13)) := L.2.2.2.2.2.2.2.2.1
  unfold f_n_find
  refine ok_lt (ok_up N.1 (fun i st h' => st = (q, lN w, nI i) ∧ h' = h ∧ fdn N w i = fdn N w 0) ?_ FU 0 _ _ (Nat.zero_le _) ⟨rfl, rfl, rfl⟩ (by show _ < 10000; omega))
  intro k i st h1 hi hI' kk
  obtain ⟨rfl, rfl, hf⟩ := hI'
  show Ok (b_n_find_2 k q (lN w) (nI i) h1) _
  unfold b_n_find_2
  (try unfold QB); (try unfold QM); repeat (first | (with_reducible refine ok_lt ?_) | ((with_reducible refine ok_gd ?_ ?_); first | assumption | exact zb0 | exact zb1 | ((with_reducible apply ai_of) <;> first | assumption | omega | decide) | exact ai_lit (by assumption) (by decide) (by decide) (by decide)) | (refine ok_bR (by assumption) ?_))
  rw [p1]
  refine ok_it hi (by omega) (fun g => ok_ret ⟨rfl, ?_⟩) (fun g => ?_)
  · rw [← hf, fdn_e (by omega), if_neg (by omega)]
  · (try unfold QB); (try unfold QM); repeat (first | (with_reducible refine ok_lt ?_) | ((with_reducible refine ok_gd ?_ ?_); first | assumption | exact zb0 | exact zb1 | ((with_reducible apply ai_of) <;> first | assumption | omega | decide) | exact ai_lit (by assumption) (by decide) (by decide) (by decide)) | (refine ok_bR (by assumption) ?_))
    obtain ⟨q1, q2, -⟩ := p3 i g
    have q1' : hL h1 (q + 1 + 14) i = lN (N.2.1 i) := q1
    rw [nI_clamp (by omega), q1']
    have u := fdn_u (w := w) g
    refine ok_ite (fun y => ok_ret ⟨rfl, ?_⟩) (fun y => ?_)
    · have e2 := (pk_lEQ (by omega) (by omega)).mp ((lg_cmp_eq _ _).mp y)
      rw [if_pos e2] at u
      rw [← hf, u, if_pos g]
    · have e2 : ¬ N.2.1 i = w := fun z => y ((lg_cmp_eq _ _).mpr (by rw [z]))
      rw [if_neg e2] at u
      rw [nI_1]
      exact kk _ _ g ⟨rfl, rfl, by rw [← u]; exact hf⟩
theorem j_fresh {f : Int64 → Hp → Option (α × Hp)} (R : GS h0 h m q X c) (P : NmM h q N) (kk : ∀ r h1, GS h0 h1 m q X (cS X (cT X N c)) → ((cT X N c).1 = 0 → r = lN (tW X c.2)) → Ok (f r h1) Q) : Ok (gd (hS h m = some (.inl 11)) (bd (f_m_readFresh m h) f)) Q := by
  have hs := R.s
  refine ok_gd hs (ok_bd ?_)
  unfold f_m_readFresh
  have er32 : ∀ (c' : CU) h1, GS h0 h1 m q X c' → c'.1 ≠ 0 → cT X N c = c' → Ok (b_m_readFresh_32 m h1) (fun r h => Ok (f r h) Q) := by
    intro c' h1 R1 e ee
    unfold b_m_readFresh_32
    refine ok_gd R1.s (ok_lt (j_on R1 (fun z => absurd z e) (fun h2 R2 => ok_ret (kk _ h2 ?_ (fun z => absurd z (by rw [ee]; exact e))))))
    rw [ee]
    exact R2
  have er12 : ∀ (c' : CU) h1, GS h0 h1 m q X c' → NmM h1 q N → c'.1 ≠ 0 → cT X N c = c' → Ok (b_m_readFresh_12 m h1) (fun r h => Ok (f r h) Q) := by
    intro c' h1 R1 P1 e ee
    unfold b_m_readFresh_12
    refine ok_gd R1.s (ok_bR R1.2.1.2.1 (ok_gd R1.s (ok_lt (ok_gd R1.2.1.2.2.2.2.2.2.2.2.1.1 (ok_bd (ok_mono (ok_n_find R1.2.1.2.2.2.2.2.2.2.2.1 P1) ?_))))))
    intro r h2 hx
    obtain ⟨rfl, -⟩ := hx
    refine ok_ite (fun _ => er32 c' h2 R1 e ee) (fun _ => j_flaw R1 rfl (by decide) (by decide) (fun h3 R3 => er32 c' h3 ?_ e ee))
    rw [cF_n e] at R3
    exact R3
  have L := R.2.1.2.2.2.2.2.2.2.2.1
  refine ok_gd hs (ok_bde (e_m_isName R) (ok_ib (fun g => ?_) (fun g => ?_)))
  · have ee : cT X N c = cF 1 c := by
      by_cases e : c.1 = 0
      · rw [decide_eq_true e, Bool.true_and] at g
        unfold cT
        rw [show cCk (isNm X c.2) 1 c = cF 1 c by unfold cCk; rw [g]; rfl, cCk_n (cF_ne (by decide))]
      · rw [cT_n e, cF_n e]
    refine j_flaw R rfl (by decide) (by decide) (fun h1 R1 => er12 _ h1 R1 (P.mv R R1) (cF_ne (by decide)) ee)
  · obtain ⟨g1, g2⟩ := Bool.and_eq_true_iff.mp g
    have e := of_decide_eq_true g1
    have y := isNm_w g2
    have ck : cCk (isNm X c.2) 1 c = c := if_pos g2
    have fl := fdn_le (N := N) (w := tW X c.2)
    have N13 := P.2.1
    unfold b_m_readFresh_12
    refine ok_gd hs (ok_bR R.2.1.2.1 (ok_gd hs (ok_lt (ok_gd L.1 ?_))))
    rw [(R.2.2.2.1 e).1.2.2.2.2.2 y]
    refine ok_bd (ok_mono (ok_n_findc (tW_cv y).2 L P) ?_)
    intro r h2 hx
    obtain ⟨rfl, rfl⟩ := hx
    by_cases hf : fdn N (tW X c.2) 0 < N.1
    · rw [if_pos hf]
      have ee : cT X N c = cF 3 c := by unfold cT; rw [ck]; unfold cCk; rw [decide_eq_false (show ¬ _ by omega)]; rfl
      exact ok_f (nI_nm1 (by omega)) (j_flaw R rfl (by decide) (by decide) (fun h3 R3 => er32 _ h3 R3 (cF_ne (by decide)) ee))
    · rw [if_neg hf]
      have ee : cT X N c = c := by unfold cT; rw [ck]; exact if_pos (decide_eq_true (by omega))
      rw [ee] at kk
      refine ok_t rfl ?_
      unfold b_m_readFresh_32
      refine ok_gd hs (ok_lt (j_on R (fun _ => by omega) (fun h3 R3 => ok_ret (kk _ h3 R3 (fun _ => (R.2.2.2.1 e).1.2.2.2.2.2 y)))))
theorem j_known {f : Int32 → Hp → Option (α × Hp)} (s : Nat) {v : Int32} (R : GS h0 h m q X c) (P : NmM h q N) (hs3 : s < 3) (hv : v = nI s) (kk : ∀ r h1, GS h0 h1 m q X (cK X N s c) → ((cK X N s c).1 = 0 → r = nI (kn N (tW X c.2))) → Ok (f r h1) Q) : Ok (gd (hS h m = some (.inl 11)) (bd (f_m_knownOne m v h) f)) Q := by
  have hs := R.s
  refine ok_gd hs (ok_bd ?_)
  unfold f_m_knownOne
  have er47 : ∀ (c' : CU) h1 w, GS h0 h1 m q X c' → c'.1 ≠ 0 → cK X N s c = c' → Ok (b_m_knownOne_47 m w h1) (fun r h => Ok (f r h) Q) := by
    intro c' h1 w R1 e ee
    unfold b_m_knownOne_47
    exact ok_gd R1.s (ok_lt (j_st R1 (fun _ => ok_ret (kk _ h1 (by rw [ee]; exact R1) (fun z => absurd z (by rw [ee]; exact e)))) (fun z => absurd z e)))
  have er42 : ∀ (c' : CU) h1 w, GS h0 h1 m q X c' → c'.1 ≠ 0 → cK X N s c = c' → Ok (b_m_knownOne_42 m w h1) (fun r h => Ok (f r h) Q) := by
    intro c' h1 w R1 e ee
    unfold b_m_knownOne_42
    exact j_flaw R1 rfl (by decide) (by decide) (fun h2 R2 => er47 c' h2 w (by rw [cF_n e] at R2; exact R2) e ee)
  have er12 : ∀ (c' : CU) h1, GS h0 h1 m q X c' → NmM h1 q N → c'.1 ≠ 0 → cK X N s c = c' → Ok (b_m_knownOne_12 m v h1) (fun r h => Ok (f r h) Q) := by
    intro c' h1 R1 P1 e ee
    have L := R1.2.1.2.2.2.2.2.2.2.2.1
    have b1 := L.1
    have d15 : hR h1 q 25 = some (q + 1 + 15) := L.2.1 15 (by decide)
    have b16 : hS h1 (q + 1 + 15) = some (.inr (0, 13)) := L.2.2.2.2.2.2.2.2.2.1
    have k1 := R1.s
    have k2 := R1.2.1.2.1
    have p2 := P1.2.1
    unfold b_m_knownOne_12
    refine ok_gd k1 (ok_bR k2 (ok_gd k1 (ok_lt (ok_gd b1 (ok_bd (ok_mono (ok_n_find L P1) ?_))))))
    intro r h2 hx
    obtain ⟨rfl, hr⟩ := hx
    refine ok_ite (fun _ => er42 c' h2 _ R1 e ee) (fun g => ?_)
    rcases hr with z | ⟨k, hk, rfl⟩
    · exact absurd z g
    · (try unfold QB); (try unfold QM); repeat (first | (with_reducible refine ok_lt ?_) | ((with_reducible refine ok_gd ?_ ?_); first | assumption | exact zb0 | exact zb1 | ((with_reducible apply ai_of) <;> first | assumption | omega | decide) | exact ai_lit (by assumption) (by decide) (by decide) (by decide)) | (refine ok_bR (by assumption) ?_))
      exact ok_ite (fun _ => er47 c' h2 _ R1 e ee) (fun _ => er42 c' h2 _ R1 e ee)
  have L := R.2.1.2.2.2.2.2.2.2.2.1
  refine ok_gd hs (ok_bde (e_m_isName R) (ok_ib (fun g => ?_) (fun g => ?_)))
  · have ee : cK X N s c = cF 1 c := by
      by_cases e : c.1 = 0
      · rw [decide_eq_true e, Bool.true_and] at g
        unfold cK
        rw [show cCk (isNm X c.2) 1 c = cF 1 c by unfold cCk; rw [g]; rfl, cCk_n (cF_ne (by decide))]
      · rw [cK_n e, cF_n e]
    exact j_flaw R rfl (by decide) (by decide) (fun h1 R1 => er12 _ h1 R1 (P.mv R R1) (cF_ne (by decide)) ee)
  · obtain ⟨g1, g2⟩ := Bool.and_eq_true_iff.mp g
    have e := of_decide_eq_true g1
    have y := isNm_w g2
    have ck : cCk (isNm X c.2) 1 c = c := if_pos g2
    have fl := fdn_le (N := N) (w := tW X c.2)
    have N13 := P.2.1
    have b1 := L.1
    have d15 : hR h q 25 = some (q + 1 + 15) := L.2.1 15 (by decide)
    have b16 : hS h (q + 1 + 15) = some (.inr (0, 13)) := L.2.2.2.2.2.2.2.2.2.1
    have d16 : hR h q 26 = some (q + 1 + 16) := L.2.1 16 (by decide)
    have b17 : hS h (q + 1 + 16) = some (.inr (0, 13)) := L.2.2.2.2.2.2.2.2.2.2
    have k2 := R.2.1.2.1
    unfold b_m_knownOne_12
    refine ok_gd hs (ok_bR k2 (ok_gd hs (ok_lt (ok_gd b1 ?_))))
    rw [(R.2.2.2.1 e).1.2.2.2.2.2 y]
    refine ok_bd (ok_mono (ok_n_findc (tW_cv y).2 L P) ?_)
    intro r h2 hx
    obtain ⟨rfl, rfl⟩ := hx
    have bad : isK N s (tW X c.2) = false → ∀ w, Ok (b_m_knownOne_42 m w h2) (fun r h => Ok (f r h) Q) := by
      intro hk w
      have ee : cK X N s c = cF 2 c := by unfold cK; rw [ck]; unfold cCk; rw [hk]; rfl
      unfold b_m_knownOne_42
      exact j_flaw R rfl (by decide) (by decide) (fun h3 R3 => er47 _ h3 w R3 (cF_ne (by decide)) ee)
    by_cases hf : fdn N (tW X c.2) 0 < N.1
    · rw [if_pos hf]
      obtain ⟨q1, q2, q3, q4, q5⟩ := P.2.2 _ hf
      refine ok_f (nI_nm1 (by omega)) ?_
      (try unfold QB); (try unfold QM); repeat (first | (with_reducible refine ok_lt ?_) | ((with_reducible refine ok_gd ?_ ?_); first | assumption | exact zb0 | exact zb1 | ((with_reducible apply ai_of) <;> first | assumption | omega | decide) | exact ai_lit (by assumption) (by decide) (by decide) (by decide)) | (refine ok_bR (by assumption) ?_))
      have q3' : hI h2 (q + 1 + 15) (fdn N (tW X c.2) 0) = nI (N.2.2.1 (fdn N (tW X c.2) 0)) := q3
      rw [nI_clamp (by omega), q3', hv]
      refine ok_ieq (by omega) (by omega) (fun g3 => ?_) (fun g3 => bad (decide_eq_false (fun z => g3 z.2)) _)
      have hk : isK N s (tW X c.2) = true := decide_eq_true ⟨hf, g3⟩
      have ee : cK X N s c = c := by unfold cK; rw [ck]; exact if_pos hk
      rw [ee] at kk
      unfold b_m_knownOne_47
      refine ok_gd hs (ok_lt (j_st R (fun n => absurd e n) (fun _ => ?_)))
      (try unfold QB); (try unfold QM); repeat (first | (with_reducible refine ok_lt ?_) | ((with_reducible refine ok_gd ?_ ?_); first | assumption | exact zb0 | exact zb1 | ((with_reducible apply ai_of) <;> first | assumption | omega | decide) | exact ai_lit (by assumption) (by decide) (by decide) (by decide)) | (refine ok_bR (by assumption) ?_))
      have q5' : hI h2 (q + 1 + 16) (fdn N (tW X c.2) 0) = nI (N.2.2.2 (fdn N (tW X c.2) 0)) := q5
      rw [nI_clamp (by omega), q5']
      exact ok_ret (kk _ _ R (fun _ => rfl))
    · rw [if_neg hf]
      exact ok_t rfl (bad (decide_eq_false (fun z => hf z.1)) _)
theorem j_rknown {f : Int32 → Hp → Option (α × Hp)} (s : Nat) {v : Int32} (R : GS h0 h m q X c) (P : NmM h q N) (hs3 : s < 3) (hv : v = nI s) (kk : ∀ r h1, GS h0 h1 m q X (cS X (cK X N s c)) → ((cK X N s c).1 = 0 → r = nI (kn N (tW X c.2))) → Ok (f r h1) Q) : Ok (gd (hS h m = some (.inl 11)) (bd (f_m_readKnown m v h) f)) Q := by
  refine ok_gd R.s (ok_bd ?_)
  unfold f_m_readKnown
  refine j_known s R P hs3 hv (fun r h1 R1 hr => j_on R1 (fun z => ?_) (fun h2 R2 => ok_ret (kk r h2 R2 hr)))
  obtain ⟨z1, z2, -, z5⟩ := cK_z z
  rw [z5]
  have := isNm_w z2
  omega
end GP
