/-! the class's reader: its words, in steps -/
def RC (h : Hp) (x : Nat) (X : TX) (c : CU) : Prop := hI h (x + 2) 4 = nI c.1 ∧ c.1 < 8 ∧ (c.1 ≠ 0 → hI h (x + 2) 5 = nI c.2) ∧ ∃ a, TokC h x X a ∧ (c.1 = 0 → a = c.2)
def RS (h0 h : Hp) (x o : Nat) (X : TX) (c : CU) : Prop := Fr (SR (x + 2)) h0 h ∧ RK h x o X ∧ RC h x X c
def NmC (h : Hp) (x : Nat) (N : NN) : Prop := hI h (x + 2) 12 = nI N.1 ∧ N.1 ≤ 13 ∧ ∀ k, k < N.1 → hL h (x + 3) k = lN (cv (N.2.1 k)) ∧ N.2.1 k < 32 ^ 8 ∧ hI h (x + 4) k = nI (N.2.2.1 k) ∧ N.2.2.1 k < 3 ∧ hI h (x + 5) k = nI (N.2.2.2 k)
def NC (h : Hp) (x : Nat) (N : NN) (c : CU) : Prop := (∃ n, n ≤ 13 ∧ hI h (x + 2) 12 = nI n) ∧ (c.1 = 0 → NmC h x N)
theorem NmC.fr {S : Nat → Nat → Prop} {h h' : Hp} {x : Nat} {N : NN} (P : NmC h x N) (F : Fr S h h') (h1 : ¬ S (x + 2) 12) (h3 : ∀ k, ¬ S (x + 3) k) (h4 : ∀ k, ¬ S (x + 4) k) (h5 : ∀ k, ¬ S (x + 5) k) : NmC h' x N := by
  obtain ⟨a, b, d⟩ := P
  refine ⟨by rw [(F.2.2.2 _ _ h1).1]; exact a, b, fun k hk => ?_⟩
  rw [(F.2.2.2 _ _ (h3 k)).2.1, (F.2.2.2 _ _ (h4 k)).1, (F.2.2.2 _ _ (h5 k)).1]
  exact d k hk
theorem NC.fr {S : Nat → Nat → Prop} {h h' : Hp} {x : Nat} {N : NN} {c c' : CU} (P : NC h x N c) (F : Fr S h h') (hc : c'.1 = 0 → c.1 = 0) (h1 : ¬ S (x + 2) 12) (h3 : ∀ k, ¬ S (x + 3) k) (h4 : ∀ k, ¬ S (x + 4) k) (h5 : ∀ k, ¬ S (x + 5) k) : NC h' x N c' := by
  obtain ⟨⟨n, hn, e⟩, P2⟩ := P
  exact ⟨⟨n, hn, by rw [(F.2.2.2 _ _ h1).1]; exact e⟩, fun e0 => (P2 (hc e0)).fr F h1 h3 h4 h5⟩
theorem NC.rs {h0 h : Hp} {x o : Nat} {X : TX} {N : NN} {c c' : CU} (P : NC h0 x N c) (R : RS h0 h x o X c') (hc : c'.1 = 0 → c.1 = 0) : NC h x N c' := P.fr R.1 hc (by unfold SR; omega) (fun k => by unfold SR; omega) (fun k => by unfold SR; omega) (fun k => by unfold SR; omega)
theorem TokC.fr {S : Nat → Nat → Prop} {h h' : Hp} {x a : Nat} {X : TX} (P : TokC h x X a) (F : Fr S h h') (hs : ∀ k, 6 ≤ k → k ≤ 10 → ¬ S (x + 2) k) : TokC h' x X a := by
  obtain ⟨a1, a2, a3, a4, a5, a6⟩ := P
  have e : ∀ k, 6 ≤ k → k ≤ 10 → hI h' (x + 2) k = hI h (x + 2) k := fun k h1 h2 => (F.2.2.2 _ _ (hs k h1 h2)).1
  refine ⟨a1, by rw [e 6 (by decide) (by decide)]; exact a2, by rw [e 7 (by decide) (by decide)]; exact a3, by rw [e 8 (by decide) (by decide)]; exact a4, fun q => by rw [e 9 (by decide) (by decide)]; exact a5 q, fun q => by rw [(F.2.2.2 _ _ (hs 10 (by decide) (by decide))).2.1]; exact a6 q⟩
section CP
variable {α : Type} {h0 h : Hp} {x o : Nat} {X : TX} {c : CU} {N : NN} {Q : α → Hp → Prop}
theorem RS.s (R : RS h0 h x o X c) : hS h (x + 2) = some (.inl 1) := R.2.1.1.1
theorem RS.z (R : RS h0 h x o X c) (hc : c.1 = 0) : TokC h x X c.2 := by
  obtain ⟨-, -, -, -, -, a, t, e⟩ := R
  rw [← e hc]
  exact t
theorem RS.rb (R : RS h0 h x o X c) : RS h h x o X c := ⟨Fr.rf, R.2⟩
theorem RS.f0 (R : RS h0 h x o X c) : (hI h (x + 2) 4 = 0) ↔ c.1 = 0 := by
  obtain ⟨-, -, e, b, -⟩ := R
  rw [e]
  exact nI_eq (b := 0) (by omega) (by decide)
/-- the test of the fault -/
theorem k_ft {A B : Option (α × Hp)} (R : RS h0 h x o X c) (t : c.1 = 0 → Ok A Q) (e : c.1 ≠ 0 → Ok B Q) : Ok (if hI h (x + 2) 4 = 0 then A else B) Q := ok_ite (fun g => t (R.f0.mp g)) (fun g => e (fun q => g (R.f0.mpr q)))
theorem e_R_is {a k : Nat} {w : Int64} (hs : hS h (x + 2) = some (.inl 1)) (t : TokC h x X a) (hk : k < 24) (hw : w = lN (cv (wk k))) : f_R_is (x + 2) w h = some (bI (isW X k a), h) := by
  refine ok_eq ?_
  obtain ⟨a1, a2, a3, a4, a5, a6⟩ := t
  have b5 := tS_le (X := X) (a := a)
  unfold f_R_is
  (try unfold QB); (try unfold QM); repeat (first | (with_reducible refine ok_lt ?_) | ((with_reducible refine ok_gd ?_ ?_); first | assumption | exact zb0 | exact zb1 | ((with_reducible apply ai_of) <;> first | assumption | omega | decide) | exact ai_lit (by assumption) (by decide) (by decide) (by decide)) | (refine ok_bR (by assumption) ?_))
  rw [a4]
  refine ok_ieq (b := 1) (by omega) (by decide) (fun e => ?_) (fun e => ?_)
  · (try unfold QB); (try unfold QM); repeat (first | (with_reducible refine ok_lt ?_) | ((with_reducible refine ok_gd ?_ ?_); first | assumption | exact zb0 | exact zb1 | ((with_reducible apply ai_of) <;> first | assumption | omega | decide) | exact ai_lit (by assumption) (by decide) (by decide) (by decide)) | (refine ok_bR (by assumption) ?_))
    rw [a6 e, hw]
    refine ok_ite (fun g => ?_) (fun g => ?_)
    · have := (cv_inj (tW_cv e).2 (wk_b k hk)).mp ((lg_cmp_eq _ _).mp g)
      refine ok_gd zb1 (ok_ret ⟨?_, rfl⟩)
      unfold isW
      rw [decide_eq_true ⟨e, this⟩]
      rfl
    · refine ok_gd zb0 (ok_ret ⟨?_, rfl⟩)
      unfold isW
      rw [decide_eq_false (fun q => g ((lg_cmp_eq _ _).mpr (by rw [q.2])))]
      rfl
  · refine ok_gd zb0 (ok_ret ⟨?_, rfl⟩)
    unfold isW
    rw [decide_eq_false (fun q => e q.1)]
    rfl
theorem ok_lw {α : Type} {A B : Option (α × Hp)} {Q : α → Hp → Prop} {a k : Nat} {w : Int64} (e : tS X a = 1) (hk : k < 24) (hw : w = lN (cv (wk k))) (t : isW X k a = true → Ok A Q) (f : isW X k a = false → Ok B Q) : Ok (if lg_cmp (lN (cv (tW X a))) w = 0 then A else B) Q := by
  rw [hw]
  refine ok_ite (fun g => t ?_) (fun g => f ?_)
  · exact decide_eq_true ⟨e, (cv_inj (tW_cv e).2 (wk_b k hk)).mp ((lg_cmp_eq _ _).mp g)⟩
  · exact decide_eq_false (fun q => g ((lg_cmp_eq _ _).mpr (by rw [q.2])))
theorem e_R_isLine {a : Nat} (hs : hS h (x + 2) = some (.inl 1)) (t : TokC h x X a) : f_R_isLineWord (x + 2) h = some (bI (isLn X a), h) := by
  refine ok_eq ?_
  obtain ⟨a1, a2, a3, a4, a5, a6⟩ := t
  have b5 := tS_le (X := X) (a := a)
  unfold f_R_isLineWord b_R_isLineWord_107
  (try unfold QB); (try unfold QM); repeat (first | (with_reducible refine ok_lt ?_) | ((with_reducible refine ok_gd ?_ ?_); first | assumption | exact zb0 | exact zb1 | ((with_reducible apply ai_of) <;> first | assumption | omega | decide) | exact ai_lit (by assumption) (by decide) (by decide) (by decide)) | (refine ok_bR (by assumption) ?_))
  rw [a4]
  refine ok_ieq (b := 1) (by omega) (by decide) (fun e => ?_) (fun e => ?_)
  · rw [a6 e]
    (try unfold QB); (try unfold QM); repeat (first | (with_reducible refine ok_lt ?_) | ((with_reducible refine ok_gd ?_ ?_); first | assumption | exact zb0 | exact zb1 | ((with_reducible apply ai_of) <;> first | assumption | omega | decide) | exact ai_lit (by assumption) (by decide) (by decide) (by decide)) | (refine ok_bR (by assumption) ?_))
    refine ok_lw (k := 1) e (by decide) (by decide) (fun g => ok_gd zb1 (ok_ret ⟨by unfold isLn; rw [g]; rfl, rfl⟩)) (fun g1 => ?_)
    (try unfold QB); (try unfold QM); repeat (first | (with_reducible refine ok_lt ?_) | ((with_reducible refine ok_gd ?_ ?_); first | assumption | exact zb0 | exact zb1 | ((with_reducible apply ai_of) <;> first | assumption | omega | decide) | exact ai_lit (by assumption) (by decide) (by decide) (by decide)) | (refine ok_bR (by assumption) ?_))
    refine ok_lw (k := 4) e (by decide) (by decide) (fun g => ok_gd zb1 (ok_ret ⟨by unfold isLn; rw [g1, g]; rfl, rfl⟩)) (fun g4 => ?_)
    (try unfold QB); (try unfold QM); repeat (first | (with_reducible refine ok_lt ?_) | ((with_reducible refine ok_gd ?_ ?_); first | assumption | exact zb0 | exact zb1 | ((with_reducible apply ai_of) <;> first | assumption | omega | decide) | exact ai_lit (by assumption) (by decide) (by decide) (by decide)) | (refine ok_bR (by assumption) ?_))
    refine ok_lw (k := 5) e (by decide) (by decide) (fun g => ok_gd zb1 (ok_ret ⟨by unfold isLn; rw [g1, g4, g]; rfl, rfl⟩)) (fun g5 => ?_)
    (try unfold QB); (try unfold QM); repeat (first | (with_reducible refine ok_lt ?_) | ((with_reducible refine ok_gd ?_ ?_); first | assumption | exact zb0 | exact zb1 | ((with_reducible apply ai_of) <;> first | assumption | omega | decide) | exact ai_lit (by assumption) (by decide) (by decide) (by decide)) | (refine ok_bR (by assumption) ?_))
    refine ok_lw (k := 6) e (by decide) (by decide) (fun g => ok_gd zb1 (ok_ret ⟨by unfold isLn; rw [g1, g4, g5, g]; rfl, rfl⟩)) (fun g6 => ?_)
    (try unfold QB); (try unfold QM); repeat (first | (with_reducible refine ok_lt ?_) | ((with_reducible refine ok_gd ?_ ?_); first | assumption | exact zb0 | exact zb1 | ((with_reducible apply ai_of) <;> first | assumption | omega | decide) | exact ai_lit (by assumption) (by decide) (by decide) (by decide)) | (refine ok_bR (by assumption) ?_))
    refine ok_lw (k := 7) e (by decide) (by decide) (fun g => ok_gd zb1 (ok_ret ⟨by unfold isLn; rw [g1, g4, g5, g6, g]; rfl, rfl⟩)) (fun g7 => ?_)
    (try unfold QB); (try unfold QM); repeat (first | (with_reducible refine ok_lt ?_) | ((with_reducible refine ok_gd ?_ ?_); first | assumption | exact zb0 | exact zb1 | ((with_reducible apply ai_of) <;> first | assumption | omega | decide) | exact ai_lit (by assumption) (by decide) (by decide) (by decide)) | (refine ok_bR (by assumption) ?_))
    refine ok_lw (k := 8) e (by decide) (by decide) (fun g => ok_gd zb1 (ok_ret ⟨by unfold isLn; rw [g1, g4, g5, g6, g7, g]; rfl, rfl⟩)) (fun g8 => ?_)
    (try unfold QB); (try unfold QM); repeat (first | (with_reducible refine ok_lt ?_) | ((with_reducible refine ok_gd ?_ ?_); first | assumption | exact zb0 | exact zb1 | ((with_reducible apply ai_of) <;> first | assumption | omega | decide) | exact ai_lit (by assumption) (by decide) (by decide) (by decide)) | (refine ok_bR (by assumption) ?_))
    refine ok_lw (k := 9) e (by decide) (by decide) (fun g => ok_gd zb1 (ok_ret ⟨by unfold isLn; rw [g1, g4, g5, g6, g7, g8, g]; rfl, rfl⟩)) (fun g9 => ?_)
    (try unfold QB); (try unfold QM); repeat (first | (with_reducible refine ok_lt ?_) | ((with_reducible refine ok_gd ?_ ?_); first | assumption | exact zb0 | exact zb1 | ((with_reducible apply ai_of) <;> first | assumption | omega | decide) | exact ai_lit (by assumption) (by decide) (by decide) (by decide)) | (refine ok_bR (by assumption) ?_))
    refine ok_lw (k := 10) e (by decide) (by decide) (fun g => ok_gd zb1 (ok_ret ⟨by unfold isLn; rw [g1, g4, g5, g6, g7, g8, g9, g]; rfl, rfl⟩)) (fun g10 => ?_)
    (try unfold QB); (try unfold QM); repeat (first | (with_reducible refine ok_lt ?_) | ((with_reducible refine ok_gd ?_ ?_); first | assumption | exact zb0 | exact zb1 | ((with_reducible apply ai_of) <;> first | assumption | omega | decide) | exact ai_lit (by assumption) (by decide) (by decide) (by decide)) | (refine ok_bR (by assumption) ?_))
    refine ok_lw (k := 11) e (by decide) (by decide) (fun g => ok_gd zb1 (ok_ret ⟨by unfold isLn; rw [g1, g4, g5, g6, g7, g8, g9, g10, g]; rfl, rfl⟩)) (fun g11 => ?_)
    exact ok_gd zb0 (ok_ret ⟨by unfold isLn; rw [g1, g4, g5, g6, g7, g8, g9, g10, g11]; rfl, rfl⟩)
  · have no : ∀ k, isW X k a = false := fun k => decide_eq_false (fun q => e q.1)
    refine ok_gd zb0 (ok_ret ⟨?_, rfl⟩)
    unfold isLn
    simp only [no]
    rfl
/-- a fault is told, unless one was told before -/
theorem k_fail {f : Unit → Hp → Option (α × Hp)} {n p : Nat} {v w : Int32} (R : RS h0 h x o X c) (hn : v = nI n) (h1 : 0 < n) (h8 : n < 8) (hp : c.1 = 0 → w = nI p) (kk : ∀ h1, RS h0 h1 x o X (cG n p c) → Ok (f () h1) Q) : Ok (gd (hS h (x + 2) = some (.inl 1)) (bd (f_R_fail (x + 2) v w h) f)) Q := by
  have hs := R.s
  refine ok_gd hs (ok_bd ?_)
  unfold f_R_fail
  (try unfold QB); (try unfold QM); repeat (first | (with_reducible refine ok_lt ?_) | ((with_reducible refine ok_gd ?_ ?_); first | assumption | exact zb0 | exact zb1 | ((with_reducible apply ai_of) <;> first | assumption | omega | decide) | exact ai_lit (by assumption) (by decide) (by decide) (by decide)) | (refine ok_bR (by assumption) ?_))
  refine k_ft R (fun e => ?_) (fun e => ?_)
  · (try unfold QB); (try unfold QM); repeat (first | (with_reducible refine ok_lt ?_) | ((with_reducible refine ok_gd ?_ ?_); first | assumption | exact zb0 | exact zb1 | ((with_reducible apply ai_of) <;> first | assumption | omega | decide) | exact ai_lit (by assumption) (by decide) (by decide) (by decide)) | (refine ok_bR (by assumption) ?_))
    refine ok_ret (kk _ ?_)
    have F : Fr (SR (x + 2)) h (uI (uI h (x + 2) 4 v) (x + 2) 5 w) := (fr_uI ⟨rfl, by decide, by decide⟩).trans (fr_uI ⟨rfl, by decide, by decide⟩)
    have t := R.z e
    obtain ⟨R1, R2, R3⟩ := R
    rw [cG_0 e]
    refine ⟨R1.trans F, R2.sr F, ?_, h8, fun _ => by rw [hI_uIs, hp e], c.2, ?_, fun g => absurd g (by show n ≠ 0; omega)⟩
    · rw [hI_uIk (by decide), hI_uIs, hn]
    · exact t.fr (S := fun b k => b = x + 2 ∧ (k = 4 ∨ k = 5)) ((fr_uI ⟨rfl, Or.inl rfl⟩).trans (fr_uI ⟨rfl, Or.inr rfl⟩)) (fun k h1 h2 => by omega)
  · exact ok_ret (kk _ (by rw [cG_n e]; exact R))
theorem k_step {f : Unit → Hp → Option (α × Hp)} (R : RS h0 h x o X c) (kk : ∀ h1, RS h0 h1 x o X (cS X c) → (c.1 = 0 → hI h1 (x + 2) 11 = nI c.2) → Ok (f () h1) Q) : Ok (gd (hS h (x + 2) = some (.inl 1)) (bd (f_R_step (x + 2) h) f)) Q := by
  have hs := R.s
  obtain ⟨F, K, C1, C2, C3, a, t, ha⟩ := R
  have tb := tE_b t.1
  refine ok_gd hs (ok_bd (ok_mono (ok_R_step (b := tE X a) K tb.2.1 t.2.2.1) ?_))
  intro _ h1 hx
  obtain ⟨F1, e11, t1⟩ := hx
  refine kk h1 ⟨F.trans (F1.mono (fun _ _ e => ST_SR e)), K.st F1, ?_⟩ (fun e => by rw [e11, t.2.1, ha e])
  have e4 : hI h1 (x + 2) 4 = hI h (x + 2) 4 := (F1.2.2.2 _ _ (by unfold ST; omega)).1
  have e5 : hI h1 (x + 2) 5 = hI h (x + 2) 5 := (F1.2.2.2 _ _ (by unfold ST; omega)).1
  by_cases e : c.1 = 0
  · rw [cS_0 e]
    refine ⟨by rw [e4, C1, e], by show 0 < 8; decide, fun g => absurd rfl g, nxt X a, t1, fun _ => by rw [ha e]⟩
  · rw [cS_n e]
    exact ⟨by rw [e4]; exact C1, C2, fun g => by rw [e5]; exact C3 g, _, t1, fun g => absurd g e⟩
/-- a test of the token at hand, then a fault there -/
theorem RS.ck {b : Bool} {n : Nat} (hb : b = true) (R : RS h0 h x o X c) : RS h0 h x o X (cCk b n c) := by
  unfold cCk
  rw [if_pos hb]
  exact R
theorem k_at {f : Unit → Hp → Option (α × Hp)} {n : Nat} {v : Int32} (R : RS h0 h x o X c) (hn : v = nI n) (h1 : 0 < n) (h8 : n < 8) (kk : ∀ h1, RS h0 h1 x o X (cF n c) → Ok (f () h1) Q) : Ok (gd (hS h (x + 2) = some (.inl 1)) (lt (hI h (x + 2) 6) fun x3 => gd (hS h (x + 2) = some (.inl 1)) (bd (f_R_fail (x + 2) v x3 h) f))) Q := by
  have hs := R.s
  refine ok_gd hs (ok_lt (k_fail (p := c.2) R hn h1 h8 (fun e => (R.z e).2.1) kk))
theorem k_pass {f : Unit → Hp → Option (α × Hp)} (k : Nat) {w : Int64} (R : RS h0 h x o X c) (hk : k < 24) (hw : w = lN (cv (wk k))) (kk : ∀ h1, RS h0 h1 x o X (cP X k c) → Ok (f () h1) Q) : Ok (gd (hS h (x + 2) = some (.inl 1)) (bd (f_R_pass (x + 2) w h) f)) Q := by
  have hs := R.s
  obtain ⟨F, K, C1, C2, C3, a, t, ha⟩ := id R
  refine ok_gd hs (ok_bd ?_)
  unfold f_R_pass b_R_pass_17
  refine ok_gd hs (ok_bde (e_R_is hs t hk hw) ?_)
  by_cases e : c.1 = 0
  · have hae := ha e
    subst hae
    refine ok_ib (fun g => ?_) (fun g => ?_)
    · refine k_at R rfl (by decide) (by decide) (fun h1 R1 => k_step R1 (fun h2 R2 _ => ok_ret (kk h2 ?_)))
      unfold cP cCk
      rw [g]
      exact R2
    · refine k_step R (fun h2 R2 _ => ok_ret (kk h2 ?_))
      unfold cP cCk
      rw [if_pos g]
      exact R2
  · have ee : cP X k c = cS X c := by unfold cP; rw [cCk_n e]
    rw [ee] at kk
    refine ok_ite (fun g => ?_) (fun g => ?_)
    · refine k_at R rfl (by decide) (by decide) (fun h1 R1 => k_step R1 (fun h2 R2 _ => ok_ret (kk h2 ?_)))
      rw [cF_n e] at R2
      exact R2
    · exact k_step R (fun h2 R2 _ => ok_ret (kk h2 R2))
theorem k_whole {f : Int32 → Hp → Option (α × Hp)} (lo hi : Nat) {v w : Int32} (R : RS h0 h x o X c) (hlo : lo < 2 ^ 31) (hhi : hi < 2 ^ 31) (hv : c.1 = 0 → v = nI lo ∧ w = nI hi) (kk : ∀ r h1, RS h0 h1 x o X (cW X lo hi c) → ((cW X lo hi c).1 = 0 → r = nI (tN X c.2) ∧ hI h1 (x + 2) 11 = nI c.2) → Ok (f r h1) Q) : Ok (gd (hS h (x + 2) = some (.inl 1)) (bd (f_R_readWhole (x + 2) v w h) f)) Q := by
  have hs := R.s
  obtain ⟨F, K, C1, C2, C3, a, t, ha⟩ := id R
  refine ok_gd hs (ok_bd ?_)
  have bb := tS_le (X := X) (a := a)
  unfold f_R_readWhole b_R_readWhole_35 b_R_readWhole_44
  refine ok_gd hs (ok_lt (ok_gd hs (ok_lt ?_)))
  rw [t.2.2.2.1]
  by_cases e : c.1 = 0
  · obtain ⟨rfl, rfl⟩ := hv e
    have hae := ha e
    subst hae
    refine ok_ieq (b := 2) (by omega) (by decide) (fun g => ?_) (fun g => ?_)
    · have hN := tN_lt g
      rw [t.2.2.2.2.1 g]
      have out : ¬ (lo ≤ tN X c.2 ∧ tN X c.2 ≤ hi) → Ok (gd (hS h (x + 2) = some (.inl 1)) (lt (hI h (x + 2) 6) fun x1 => gd (hS h (x + 2) = some (.inl 1)) (bd (f_R_fail (x + 2) (4 : Int32) x1 h) fun _ h2 => gd (hS h2 (x + 2) = some (.inl 1)) (bd (f_R_step (x + 2) h2) fun _ h1 => some (nI (tN X c.2), h1))))) (fun r h => Ok (f r h) Q) := by
        intro g2
        refine k_at R rfl (by decide) (by decide) (fun h1 R1 => k_step R1 (fun h2 R2 _ => ok_ret (kk _ h2 ?_ (fun z => ?_))))
        · have : cW X lo hi c = cS X (cF 4 c) := by
            unfold cW cH cCk
            rw [if_pos g, decide_eq_false g2]
            rfl
          rw [this]
          exact R2
        · exact absurd (cW_z z) (fun q => g2 ⟨q.2.2.1, q.2.2.2.1⟩)
      refine ok_ilt (by omega) hlo (fun g2 => out (by omega)) (fun g2 => ?_)
      refine ok_ile (by omega) hhi (fun g3 => ?_) (fun g3 => out (by omega))
      refine k_step R (fun h2 R2 e11 => ok_ret (kk _ h2 ?_ (fun z => ⟨rfl, e11 e⟩)))
      have : cW X lo hi c = cS X c := by
        unfold cW cH cCk
        rw [if_pos g, decide_eq_true ⟨g2, g3⟩]
        rfl
      rw [this]
      exact R2
    · refine k_at R rfl (by decide) (by decide) (fun h1 R1 => k_step R1 (fun h2 R2 _ => ok_ret (kk _ h2 ?_ (fun z => ?_))))
      · have : cW X lo hi c = cS X (cF 1 c) := by
          unfold cW cH
          rw [if_neg g]
        rw [this]
        exact R2
      · exact absurd (cW_z z).2.1 g
  · have ee : cW X lo hi c = cS X c := by unfold cW; rw [cH_n e]
    rw [ee] at kk
    have nz : (cS X c).1 ≠ 0 := fun q => e (cS_z q)
    have fin : ∀ r, Ok (gd (hS h (x + 2) = some (.inl 1)) (bd (f_R_step (x + 2) h) fun _ h1 => some (r, h1))) (fun r h => Ok (f r h) Q) := fun r => k_step R (fun h2 R2 _ => ok_ret (kk r h2 R2 (fun z => absurd z nz)))
    have fl : ∀ (v : Int32) r, (v = nI 1 ∨ v = nI 4) → Ok (gd (hS h (x + 2) = some (.inl 1)) (lt (hI h (x + 2) 6) fun x1 => gd (hS h (x + 2) = some (.inl 1)) (bd (f_R_fail (x + 2) v x1 h) fun _ h2 => gd (hS h2 (x + 2) = some (.inl 1)) (bd (f_R_step (x + 2) h2) fun _ h1 => some (r, h1))))) (fun r h => Ok (f r h) Q) := by
      intro v r hv
      have go : ∀ n, v = nI n → 0 < n → n < 8 → Ok (gd (hS h (x + 2) = some (.inl 1)) (lt (hI h (x + 2) 6) fun x1 => gd (hS h (x + 2) = some (.inl 1)) (bd (f_R_fail (x + 2) v x1 h) fun _ h2 => gd (hS h2 (x + 2) = some (.inl 1)) (bd (f_R_step (x + 2) h2) fun _ h1 => some (r, h1))))) (fun r h => Ok (f r h) Q) := by
        intro n hn h1 h8
        refine k_at R hn h1 h8 (fun h1 R1 => ?_)
        rw [cF_n e] at R1
        exact k_step R1 (fun h2 R2 _ => ok_ret (kk r h2 R2 (fun z => absurd z nz)))
      rcases hv with q | q
      · exact go 1 q (by decide) (by decide)
      · exact go 4 q (by decide) (by decide)
    refine ok_ite (fun _ => ok_ite (fun _ => fl _ _ (Or.inr rfl)) (fun _ => ok_ite (fun _ => fin _) (fun _ => fl _ _ (Or.inr rfl)))) (fun _ => fl _ _ (Or.inl rfl))
/-- a name is looked for -/
theorem ok_R_find {n : Nat} (hs : LayRd h (x + 2)) (hn : n ≤ 13) (h12 : hI h (x + 2) 12 = nI n) : Ok (f_R_findName (x + 2) h) (fun r h' => h' = h ∧ (r = -1 ∨ ∃ k, k < n ∧ r = nI k)) := by
  obtain ⟨k1, k2, k3, k4, k5, k6, k7⟩ := id hs
  unfold f_R_findName
  refine ok_lt (ok_up n (fun i st h' => st = (x + 2, nI i) ∧ h' = h) ?_ FU 0 _ _ (Nat.zero_le _) ⟨rfl, rfl⟩ (by show _ < 10000; omega))
  intro k i st h1 hi hI' kk
  obtain ⟨rfl, rfl⟩ := hI'
  show Ok (b_R_findName_2 k (x + 2) (nI i) h1) _
  unfold b_R_findName_2
  (try unfold QB); (try unfold QM); repeat (first | (with_reducible refine ok_lt ?_) | ((with_reducible refine ok_gd ?_ ?_); first | assumption | exact zb0 | exact zb1 | ((with_reducible apply ai_of) <;> first | assumption | omega | decide) | exact ai_lit (by assumption) (by decide) (by decide) (by decide)) | (refine ok_bR (by assumption) ?_))
  rw [h12]
  refine ok_it hi (by omega) (fun g => ok_ret ⟨rfl, Or.inl rfl⟩) (fun g => ?_)
  (try unfold QB); (try unfold QM); repeat (first | (with_reducible refine ok_lt ?_) | ((with_reducible refine ok_gd ?_ ?_); first | assumption | exact zb0 | exact zb1 | ((with_reducible apply ai_of) <;> first | assumption | omega | decide) | exact ai_lit (by assumption) (by decide) (by decide) (by decide)) | (refine ok_bR (by assumption) ?_))
  refine ok_ite (fun _ => ok_ret ⟨rfl, Or.inr ⟨i, g, rfl⟩⟩) (fun _ => ?_)
  rw [nI_1]
  exact kk _ _ g ⟨rfl, rfl⟩
theorem ok_R_findc {a : Nat} (hs : LayRd h (x + 2)) (P : NmC h x N) (t : TokC h x X a) (e : tS X a = 1) : Ok (f_R_findName (x + 2) h) (fun r h' => h' = h ∧ r = (if fdn N (tW X a) 0 < N.1 then nI (fdn N (tW X a) 0) else -1)) := by
  obtain ⟨k1, k2, k3, k4, k5, k6, k7⟩ := id hs
  obtain ⟨p1, p2, p3⟩ := P
  unfold f_R_findName
  refine ok_lt (ok_up N.1 (fun i st h' => st = (x + 2, nI i) ∧ h' = h ∧ fdn N (tW X a) i = fdn N (tW X a) 0) ?_ FU 0 _ _ (Nat.zero_le _) ⟨rfl, rfl, rfl⟩ (by show _ < 10000; omega))
  intro k i st h1 hi hI' kk
  obtain ⟨rfl, rfl, hf⟩ := hI'
  show Ok (b_R_findName_2 k (x + 2) (nI i) h1) _
  unfold b_R_findName_2
  (try unfold QB); (try unfold QM); repeat (first | (with_reducible refine ok_lt ?_) | ((with_reducible refine ok_gd ?_ ?_); first | assumption | exact zb0 | exact zb1 | ((with_reducible apply ai_of) <;> first | assumption | omega | decide) | exact ai_lit (by assumption) (by decide) (by decide) (by decide)) | (refine ok_bR (by assumption) ?_))
  rw [p1]
  refine ok_it hi (by omega) (fun g => ok_ret ⟨rfl, ?_⟩) (fun g => ?_)
  · rw [← hf, fdn_e (by omega), if_neg (by omega)]
  · (try unfold QB); (try unfold QM); repeat (first | (with_reducible refine ok_lt ?_) | ((with_reducible refine ok_gd ?_ ?_); first | assumption | exact zb0 | exact zb1 | ((with_reducible apply ai_of) <;> first | assumption | omega | decide) | exact ai_lit (by assumption) (by decide) (by decide) (by decide)) | (refine ok_bR (by assumption) ?_))
    obtain ⟨q1, q2, -⟩ := p3 i g
    rw [nI_clamp (by omega), t.2.2.2.2.2 e, show hL h1 (x + 2 + 1) i = _ from q1]
    have u := fdn_u (w := tW X a) g
    refine ok_ite (fun w => ok_ret ⟨rfl, ?_⟩) (fun w => ?_)
    · have e2 := (cv_inj q2 (tW_cv e).2).mp ((lg_cmp_eq _ _).mp w)
      rw [if_pos e2] at u
      rw [← hf, u, if_pos g]
    · have e2 : ¬ N.2.1 i = tW X a := fun q => w ((lg_cmp_eq _ _).mpr (by rw [q]))
      rw [if_neg e2] at u
      rw [nI_1]
      exact kk _ _ g ⟨rfl, rfl, by rw [← u]; exact hf⟩
end CP
