/-! orrery: both sides -/
theorem nI_w (n : Nat) : nI (n + 2 ^ 32) = nI n := by
  show Int32.ofNat (n + 2 ^ 32) = Int32.ofNat n
  rw [Int32.ofNat_add]
  show Int32.ofNat n + 0 = Int32.ofNat n
  exact Int32.add_zero _
section OR
variable {S : Nat → Nat → Prop} {h h' h1 : Hp} {x m c j tl nc o n : Nat} {D : DD} {V : Nat → Nat} {K Im : Nat → Nat → Nat} {T : Nat → Int32} {fa : Int32}
/-- the state at first -/
def V0 (D : DD) (V : Nat → Nat) (k : Nat) : Nat := if k = 0 then 0 else if k = 1 then dOil D else if k = 2 then 0 else if k < 3 + dW D then dA D (k - 3) else V k + 2 ^ 32
theorem LayB.or (L : LayB h x) (F : Fr S h h') (LR : LayRd h' (x + 2)) (hS' : ∀ a k, S a k → (a = x ∧ (k = 1 ∨ k = 3 ∨ k = 4 ∨ k = 14 ∨ k = 15)) ∨ (x + 2 ≤ a ∧ a ≤ x + 40) ∨ (a = x + 71 ∧ k = 7)) : LayB h' x := by
  obtain ⟨⟨x1, x2, x3, x4, x5, x6, x7, x8, x9, x10, x11, x12, x13⟩, -, lC, ⟨k1, k2, k3, k4, k5⟩, ⟨s1, s2, s3, s4, s5, s6⟩, ⟨g1, g2, g3, g4⟩, c1, c2, c3, c4⟩ := L
  have no : ∀ a k, ¬ ((a = x ∧ (k = 1 ∨ k = 3 ∨ k = 4 ∨ k = 14 ∨ k = 15)) ∨ (x + 2 ≤ a ∧ a ≤ x + 40) ∨ (a = x + 71 ∧ k = 7)) → hR h' a k = hR h a k := fun a k hn => (F.2.2.2 a k (fun e => hn (hS' a k e))).2.2
  have fS := F.2.1
  refine ⟨?_, LR, lC.fr F (fun a k e => ?_), ?_, ?_, ?_, ?_⟩
  · unfold LayX
    rw [fS, no x 0 (by omega), no x 2 (by omega), no x 5 (by omega), no x 6 (by omega), no x 8 (by omega), no x 9 (by omega), no x 10 (by omega), no x 11 (by omega), no x 12 (by omega), no x 13 (by omega)]
    exact ⟨x1, x2, x3, x4, x5, x6, x7, x8, x9, x10, x11, x12, x13⟩
  · have g := hS' _ _ e
    right
    omega
  · unfold LayK
    rw [fS, no (x + 67) 0 (by omega), no (x + 67) 1 (by omega), no (x + 67) 2 (by omega)]
    exact ⟨k1, k2, k3, k4, k5⟩
  · unfold LayS
    rw [fS, no (x + 71) 0 (by omega), no (x + 71) 1 (by omega), no (x + 71) 2 (by omega), no (x + 71) 3 (by omega)]
    exact ⟨s1, s2, s3, s4, s5, s6⟩
  · unfold LayG
    rw [fS, no (x + 76) 0 (by omega)]
    exact ⟨g1, g2, g3, fun i hi => ⟨by rw [no (x + 76 + 1) i (by omega)]; exact (g4 i hi).1, (g4 i hi).2⟩⟩
  · unfold LayH
    rw [fS, no (x + 85) 0 (by omega), no (x + 85) 1 (by omega)]
    exact ⟨c1, c2, c3, c4⟩
theorem ok_O_putAtFirst {r : Nat} (rO : RepO h o D) (v : RepV h r V) (W : Wf D) (hr : o + 15 ≤ r) : Ok (f_O_putAtFirst o r h) (fun _ h' => Fk (fun a _ => a = r) h h' ∧ RepV h' r (V0 D V)) := by
  have w1 := W.1
  have l1 := rO.1.1
  unfold f_O_putAtFirst
  rw [cl0, cl1, cl2]
  refine ok_gd (ai_of (n := 0) v.1 (by decide) (by decide)) (ok_lt (ok_gd (by exact l1) (ok_lt (ok_gd (by exact ai_of (n := 1) v.1 (by decide) (by decide)) (ok_lt (ok_gd (by exact ai_of (n := 2) v.1 (by decide) (by decide)) (ok_lt (ok_lt ?_))))))))
  rw [hI_uIa (by omega), rO.2.1.1]
  have F0 : Fk (fun a _ => a = r) h (uI (uI (uI h r 0 0) r 1 (nI (dOil D))) r 2 0) := by
    refine Fk.trans (Fk.trans ?_ (fk_uI rfl)) (fk_uI rfl)
    exact fk_uI rfl
  have e0 : hI (uI (uI (uI h r 0 0) r 1 (nI (dOil D))) r 2 0) r 0 = nI 0 := by rw [hI_uIk (by decide), hI_uIk (by decide), hI_uIs]; rfl
  have e1 : hI (uI (uI (uI h r 0 0) r 1 (nI (dOil D))) r 2 0) r 1 = nI (dOil D) := by rw [hI_uIk (by decide), hI_uIs]
  have e2 : hI (uI (uI (uI h r 0 0) r 1 (nI (dOil D))) r 2 0) r 2 = nI 0 := by rw [hI_uIs]; rfl
  have e3 : ∀ k, 3 ≤ k → hI (uI (uI (uI h r 0 0) r 1 (nI (dOil D))) r 2 0) r k = hI h r k := fun k hk => by rw [hI_uIk (by omega), hI_uIk (by omega), hI_uIk (by omega)]
  generalize uI (uI (uI h r 0 0) r 1 (nI (dOil D))) r 2 0 = h4 at *
  refine ok_up (dW D) (fun i st h' => st = (o, r, nI i) ∧ Fk (fun a _ => a = r) h h' ∧ hI h' r 0 = nI 0 ∧ hI h' r 1 = nI (dOil D) ∧ hI h' r 2 = nI 0 ∧ ∀ k, 3 ≤ k → hI h' r k = if k < 3 + i then nI (dA D (k - 3)) else hI h r k) ?_ FU 0 _ _ (Nat.zero_le _) ⟨rfl, F0, e0, e1, e2, fun k hk => by rw [if_neg (by omega)]; exact e3 k hk⟩ (by show _ < 10000; omega)
  intro k i st h5 hi hI' kk
  obtain ⟨rfl, F5, i0, i1, i2, i3⟩ := hI'
  have rO5 : RepO h5 o D := rO.fk F5 (fun i hi k e => by omega) w1
  have s5 : hS h5 r = some (.inr (0, 8)) := by rw [F5.2.1]; exact v.1
  show Ok (b_O_putAtFirst_17 k o r (nI i) h5) _
  unfold b_O_putAtFirst_17
  refine ok_gd rO5.1.1 (ok_lt ?_)
  rw [rO5.2.1.2.2.1]
  refine ok_it hi (by omega) (fun e => ok_ret ⟨F5, s5, fun k hk => ?_⟩) (fun e => ?_)
  · unfold V0
    by_cases z0 : k = 0
    · rw [if_pos z0, z0]; exact i0
    · rw [if_neg z0]
      by_cases z1 : k = 1
      · rw [if_pos z1, z1]; exact i1
      · rw [if_neg z1]
        by_cases z2 : k = 2
        · rw [if_pos z2, z2]; exact i2
        · rw [if_neg z2, i3 k (by omega), e]
          by_cases z3 : k < 3 + dW D
          · rw [if_pos z3, if_pos z3]
          · rw [if_neg z3, if_neg z3, nI_w]
            exact v.2 k hk
  · have lw := rO5.1.2.2.2.2.2.2.2 i (by omega)
    refine ok_gd rO5.1.1 (ok_bR rO5.1.2.1.1 (ok_gd (ai_of rO5.1.2.2.1 (by omega) (by decide)) ?_))
    rw [nI_clamp (by omega)]
    refine ok_bR lw.1 (ok_gd lw.2 (ok_lt ?_))
    rw [(rO5.2.2.1 i e).2.2.2.1, nI_i3]
    refine ok_gd (ai_of s5 (by omega) (by decide)) (ok_lt ?_)
    rw [nI_clamp (by omega), nI_1]
    refine kk _ _ e ⟨rfl, F5.trans (fk_uI rfl), ?_, ?_, ?_, fun k hk => ?_⟩
    · rw [hI_uIk (by omega)]; exact i0
    · rw [hI_uIk (by omega)]; exact i1
    · rw [hI_uIk (by omega)]; exact i2
    · rw [hI_uI]
      by_cases z : k = 3 + i
      · rw [if_pos ⟨rfl, z⟩, if_pos (by omega), z, show 3 + i - 3 = i by omega]
      · rw [if_neg (fun g => z g.2), i3 k hk]
        by_cases z3 : k < 3 + i
        · rw [if_pos z3, if_pos (by omega)]
        · rw [if_neg z3, if_neg (by omega)]
/-- what the text at the tape's first n bytes makes of the told things -/
def orE (T : Nat → Int32) (n : Nat) : Nat := (lend (T, n) (lall (T, n))).1
def orP (T : Nat → Int32) (n : Nat) : Nat := (lend (T, n) (lall (T, n))).2
def orD (T : Nat → Int32) (n : Nat) : DD := (lall (T, n)).1
theorem oB_no (R : RB h x D V K c Im j T tl fa) (W : Wst D V K c Im j tl nc) {v : Int32} (hv : v < 0 ∨ nI tl < v) : QB x h (f_B_orrery x v h) (-1) 2 := by
  obtain ⟨o, o', ho, LB, r3, r4, rO, rD, rV, rP, t1, t2, f1, sUs⟩ := id R; obtain ⟨⟨x1, x2, x3, x4, x5, x6, x7, x8, x9, x10, x11, x12, x13⟩, LR, LC, LK, LS, LG, LH⟩ := id LB
  unfold f_B_orrery b_B_orrery_12
  refine ok_ite (fun _ => qB_ref Fr.rf x1) (fun g => ok_gd x1 (ok_lt ?_))
  rw [t1]
  rcases hv with q | q
  · exact absurd q g
  · exact ok_f (Int32.not_le.mpr q) (qB_ref Fr.rf x1)
theorem oB_er (R : RB h x D V K c Im j T tl fa) (W : Wst D V K c Im j tl nc) (hb : BT T n) (hn : n ≤ tl) (he : orE T n ≠ 0) : Ok (f_B_orrery x (nI n) h) (fun r h' => r = -1 ∧ Fr (fun a _ => inB x a) h h' ∧ RB h' x D V K c Im j T 0 (nI (orE T n)) ∧ TrB h' x 4 (nI (orP T n))) := by
  have w900 := W.2.2.2.2.1
  have W5 := W.1.1.1
  obtain ⟨o, o', ho, LB, r3, r4, rO, rD, rV, rP, t1, t2, f1, sUs⟩ := id R; obtain ⟨⟨x1, x2, x3, x4, x5, x6, x7, x8, x9, x10, x11, x12, x13⟩, LR, LC, LK, LS, LG, LH⟩ := id LB
  unfold f_B_orrery b_B_orrery_12
  refine ok_f (nI_pos (by omega)) (ok_gd x1 (ok_lt ?_))
  rw [t1]
  refine ok_t (nI_le hn (by omega)) (ok_gd x1 (ok_lt (ok_gd (by exact x1) (ok_bR (by exact x3) (ok_gd (by exact x1) (ok_bR (by exact x2) (ok_gd (by exact x1) (ok_bR (by exact r4) (ok_gd (by exact LR.1) (ok_bd ?_))))))))))
  have F1 : Fr (fun a k => a = x ∧ k = 1) h (uI h x 1 0) := fr_uI ⟨rfl, rfl⟩
  have ho2 : o' = x + 6 ∨ o' = x + 21 := by rcases ho with q | q <;> omega
  refine ok_mono (ok_R_read (T := T) (by exact LR) (by exact x12) (rD.fr F1 (fun i k hi => by omega)) ho2 (by omega) (fun p hp => by rw [hI_uIa (by omega)]; exact t2 p (by omega)) hb) ?_
  intro r7 h6 hx
  obtain ⟨F6, e7, l8, p5, -, LR6, LO6⟩ := hx
  change r7 = nI (orE T n) at e7
  change orE T n < 8 at l8
  subst e7
  have k1 : hS h6 x = some (.inl 0) := by rw [F6.2.1]; exact x1
  refine ok_gd k1 (ok_lt (ok_gd (by exact k1) (ok_lt ?_)))
  rw [hI_uIs]
  refine ok_f (nI_ne0 (by omega) (by omega)) (ok_gd (by exact k1) (ok_bde (e_B_refuse (by exact k1)) (ok_ret ?_)))
  have FA : Fr (fun a k => (a = x ∧ (k = 1 ∨ k = 14 ∨ k = 15)) ∨ SY x o' a k) h (uI (uI h6 x 14 (nI (orE T n))) x 15 4) := (((F1.mono (fun a k e => Or.inl ⟨e.1, by omega⟩)).trans (F6.mono (fun a k e => Or.inr e))).trans (fr_uI (Or.inl ⟨rfl, by omega⟩))).trans (fr_uI (Or.inl ⟨rfl, by omega⟩))
  have sy : ∀ {a k}, SY x o' a k → x + 2 ≤ a ∧ a ≤ x + 35 ∧ (a ≤ x + 5 ∨ (o' ≤ a ∧ a ≤ o' + 14)) := fun {a k} e => by unfold SY at e; omega
  have no : ∀ a k, ¬ ((a = x ∧ (k = 1 ∨ k = 14 ∨ k = 15)) ∨ (x + 2 ≤ a ∧ a ≤ x + 35 ∧ (a ≤ x + 5 ∨ (o' ≤ a ∧ a ≤ o' + 14)))) → ¬ ((a = x ∧ (k = 1 ∨ k = 14 ∨ k = 15)) ∨ SY x o' a k) := fun a k hn e => hn (by rcases e with q | q; exact Or.inl q; exact Or.inr (sy q))
  refine ⟨rfl, FA.mono (fun a k e => by rcases e with q | q; (show inB x a; unfold inB; omega); (have := sy q; show inB x a; unfold inB; omega)), ⟨o, o', ho, LB.or FA LR6 (fun a k e => by rcases e with q | q; exact Or.inl ⟨q.1, by omega⟩; (have := sy q; exact Or.inr (Or.inl ⟨by omega, by omega⟩))), ?_, ?_, rO.fr FA (fun i k hi => no _ _ (by omega)) W5, LO6, rV.fr FA (fun k => no _ _ (by omega)), rP.fr FA (fun i k hi => no _ _ (by omega)), ?_, fun p hp => absurd hp (Nat.not_lt_zero _), ?_, sUs.fr FA (fun i k hi => no _ _ (by omega))⟩, hI_uIs, fun _ => ?_, fun z => absurd rfl z⟩
  · rw [(FA.2.2.2 x 3 (no _ _ (by omega))).2.2]; exact r3
  · rw [(FA.2.2.2 x 4 (no _ _ (by omega))).2.2]; exact r4
  · rw [hI_uIk (by decide), hI_uIk (by decide), (F6.2.2.2 x 1 (fun e => by have := sy e; omega)).1, hI_uIs]; rfl
  · rw [hI_uIk (by decide), hI_uIs]
  · rw [hI_uIa (by omega), hI_uIa (by omega)]
    exact p5 he
theorem wst_or (W : Wst D V K c Im j tl nc) (hnc : nc < 512) {E : DD} {N : NN} {br : Bool} (wR : WfR E br N) (hW : 0 < dW E) : Wst E (V0 E V) K 0 Im 0 0 (nc + 1) := by
  obtain ⟨wX, -⟩ := wR
  obtain ⟨a1, a2, a3, a4, a5, a6, a7, a8, a9⟩ := wX.1
  refine ⟨wX, ⟨?_, ?_, ?_, fun w hw => ?_⟩, fun i hi => absurd hi (Nat.not_lt_zero _), fun i hi => absurd hi (Nat.not_lt_zero _), by omega, by omega, fun e => by omega⟩
  · show (0 : Nat) ≤ 999999
    omega
  · exact a5
  · show (0 : Nat) ≤ 5 * (nc + 1)
    omega
  · unfold V0
    rw [if_neg (by omega), if_neg (by omega), if_neg (by omega), if_pos (by omega), show 3 + w - 3 = w by omega]
    exact (a8 w hw).2.2.2.2.2.2.1
theorem oB_ok (R : RB h x D V K c Im j T tl fa) (W : Wst D V K c Im j tl nc) (hb : BT T n) (hn : n ≤ tl) (he : orE T n = 0) : Ok (f_B_orrery x (nI n) h) (fun r h' => r = nI (dW (orD T n)) ∧ Fr (fun a _ => inB x a) h h' ∧ RB h' x (orD T n) (V0 (orD T n) V) K 0 Im 0 T 0 0 ∧ hI h' x 15 = 0) ∧ WfR (orD T n) (lall (T, n)).2.1 (lall (T, n)).2.2.1 ∧ 0 < dW (orD T n) := by
  have w900 := W.2.2.2.2.1
  obtain ⟨o, o', ho, LB, r3, r4, rO, rD, rV, rP, t1, t2, f1, sUs⟩ := id R; obtain ⟨⟨x1, x2, x3, x4, x5, x6, x7, x8, x9, x10, x11, x12, x13⟩, LR, LC, LK, LS, LG, LH⟩ := id LB
  have F1 : Fr (fun a k => a = x ∧ k = 1) h (uI h x 1 0) := fr_uI ⟨rfl, rfl⟩
  have ho2 : o' = x + 6 ∨ o' = x + 21 := by rcases ho with q | q <;> omega
  obtain ⟨r7, h6, ef, F6, e7, l8, p5, q0, LR6, LO6⟩ := ok_R_read (h := uI h x 1 0) (T := T) (n := n) (by exact LR) (by exact x12) (rD.fr F1 (fun i k hi => by omega)) ho2 (by omega) (fun p hp => by rw [hI_uIa (by omega)]; exact t2 p (by omega)) hb
  obtain ⟨rd, wR, hW⟩ := q0 he
  change RdO h6 o' (orD T n) at rd
  change 0 < dW (orD T n) at hW
  have W5 : dW (orD T n) ≤ 5 := nB wR
  refine ⟨?_, wR, hW⟩
  change r7 = nI (orE T n) at e7
  rw [he] at e7
  subst e7
  unfold f_B_orrery b_B_orrery_12
  refine ok_f (nI_pos (by omega)) (ok_gd x1 (ok_lt ?_))
  rw [t1]
  refine ok_t (nI_le hn (by omega)) (ok_gd x1 (ok_lt (ok_gd (by exact x1) (ok_bR (by exact x3) (ok_gd (by exact x1) (ok_bR (by exact x2) (ok_gd (by exact x1) (ok_bR (by exact r4) (ok_gd (by exact LR.1) (ok_bde ef ?_))))))))))
  have sy : ∀ {a k}, SY x o' a k → x + 2 ≤ a ∧ a ≤ x + 35 ∧ (a ≤ x + 5 ∨ (o' ≤ a ∧ a ≤ o' + 14)) := fun {a k} e => by unfold SY at e; omega
  have k1 : hS h6 x = some (.inl 0) := by rw [F6.2.1]; exact x1
  have n6 : ∀ k, k ≠ 1 → hR h6 x k = hR h x k := fun k hk => ((F6.2.2.2 x k (fun e => by have := sy e; omega)).2.2).trans (F1.2.2.2 x k (by omega)).2.2
  refine ok_gd k1 (ok_lt (ok_gd (by exact k1) (ok_lt ?_)))
  rw [hI_uIs]
  refine ok_t rfl (ok_gd (by exact k1) (ok_bR (by show hR h6 x 3 = _; rw [n6 3 (by decide)]; exact r3) (ok_gd (by exact k1) (ok_bR (by show hR h6 x 4 = _; rw [n6 4 (by decide)]; exact r4) (ok_gd (by exact k1) (ok_lt (ok_gd (by exact k1) (ok_lt ?_))))))))
  have FA : Fr (fun a k => (a = x ∧ (k = 1 ∨ k = 3 ∨ k = 4 ∨ k = 14)) ∨ SY x o' a k) h (uR (uR (uI h6 x 14 (nI 0)) x 3 (some o')) x 4 (some o)) := (((F1.mono (fun a k e => Or.inl ⟨e.1, by omega⟩)).trans (F6.mono (fun a k e => Or.inr e))).trans (fr_uI (Or.inl ⟨rfl, by omega⟩))).trans ((fr_uR (Or.inl ⟨rfl, by omega⟩)).trans (fr_uR (Or.inl ⟨rfl, by omega⟩)))
  have F13 : Fr (fun a k => a = x ∧ (k = 3 ∨ k = 4 ∨ k = 14)) h6 (uR (uR (uI h6 x 14 (nI 0)) x 3 (some o')) x 4 (some o)) := ((fr_uI ⟨rfl, by omega⟩).trans (fr_uR ⟨rfl, by omega⟩)).trans (fr_uR ⟨rfl, by omega⟩)
  have y3 : hR (uR (uR (uI h6 x 14 (nI 0)) x 3 (some o')) x 4 (some o)) x 3 = some o' := by rw [hR_uRk (by decide), hR_uRs]
  have y4 : hR (uR (uR (uI h6 x 14 (nI 0)) x 3 (some o')) x 4 (some o)) x 4 = some o := hR_uRs
  have y14 : hI (uR (uR (uI h6 x 14 (nI 0)) x 3 (some o')) x 4 (some o)) x 14 = 0 := by rw [hI_uR, hI_uR, hI_uIs]; rfl
  have y1 : hI (uR (uR (uI h6 x 14 (nI 0)) x 3 (some o')) x 4 (some o)) x 1 = 0 := by rw [hI_uR, hI_uR, hI_uIk (by decide), (F6.2.2.2 x 1 (fun e => by have := sy e; omega)).1, hI_uIs]
  generalize uR (uR (uI h6 x 14 (nI 0)) x 3 (some o')) x 4 (some o) = h13 at *
  have no : ∀ a k, ¬ ((a = x ∧ (k = 1 ∨ k = 3 ∨ k = 4 ∨ k = 14)) ∨ (x + 2 ≤ a ∧ a ≤ x + 35 ∧ (a ≤ x + 5 ∨ (o' ≤ a ∧ a ≤ o' + 14)))) → ¬ ((a = x ∧ (k = 1 ∨ k = 3 ∨ k = 4 ∨ k = 14)) ∨ SY x o' a k) := fun a k hn e => hn (by rcases e with q | q; exact Or.inl q; exact Or.inr (sy q))
  have LR13 : LayRd h13 (x + 2) := by
    obtain ⟨m1, m2, m3, m4, m5⟩ := LR6
    unfold LayRd
    rw [F13.2.1, (F13.2.2.2 (x + 2) 13 (by omega)).2.2, (F13.2.2.2 (x + 2) 14 (by omega)).2.2, (F13.2.2.2 (x + 2) 15 (by omega)).2.2]
    exact ⟨m1, m2, m3, m4, m5⟩
  have LB13 : LayB h13 x := LB.or FA LR13 (fun a k e => by rcases e with q | q; exact Or.inl ⟨q.1, by omega⟩; (have := sy q; exact Or.inr (Or.inl ⟨by omega, by omega⟩)))
  have rO13 : RepO h13 o' (orD T n) := rd.1.fr F13 (fun i k hi => by omega) W5
  have rV13 := rV.fr FA (fun k => no _ _ (by omega))
  have rP13 := rP.fr FA (fun i k hi => no _ _ (by omega))
  have lO13 : LayO h13 o := rO.1.fr FA (fun i k hi => no _ _ (by omega))
  have b1 := LB13.1.1
  have b5 : hR h13 x 5 = some (x + 36) := LB13.1.2.2.2.1
  refine ok_gd b1 (ok_bR y3 (ok_gd b1 (ok_bR b5 (ok_gd rO13.1.1 (ok_bd (ok_mono (ok_O_putAtFirst rO13 rV13 wR.1.1 (by omega)) ?_))))))
  intro _ h16 hx
  obtain ⟨F16', rV16⟩ := hx
  have F16 := F16'.r
  have z1 : hS h16 x = some (.inl 0) := by rw [F16.2.1]; exact b1
  have z8 : hR h16 x 8 = some (x + 38) := by rw [(F16.2.2.2 x 8 (by omega)).2.2]; exact LB13.1.2.2.2.2.2.1
  have z11 : hR h16 x 11 = some (x + 71) := by rw [(F16.2.2.2 x 11 (by omega)).2.2]; exact LB13.1.2.2.2.2.2.2.2.2.1
  have rP16 := rP13.fr F16 (fun i k hi => by omega)
  refine ok_gd z1 (ok_bR z8 (ok_gd rP16.1 (ok_bd (ok_mono (ok_P_forget rP16) ?_))))
  intro _ h19 hx
  obtain ⟨F19', rP19⟩ := hx
  have F19 := F19'.r
  have sp : ∀ {a k}, sP (x + 38) a k → x + 38 ≤ a ∧ a ≤ x + 40 := fun {a k} e => by unfold sP at e; omega
  have n19 : ∀ a k, ¬ (x + 38 ≤ a ∧ a ≤ x + 40) → ¬ sP (x + 38) a k := fun a k hn e => hn (sp e)
  have s19 : hS h19 (x + 71) = some (.inl 8) := by rw [F19.2.1, F16.2.1]; exact LB13.2.2.2.2.1.1
  refine ok_gd (by rw [F19.2.1]; exact z1) (ok_bR (by rw [(F19.2.2.2 x 11 (n19 _ _ (by omega))).2.2]; exact z11) (ok_gd s19 (ok_bd ?_)))
  unfold f_S_forget
  refine ok_gd ⟨zb0, s19⟩ (ok_lt (ok_ret ?_))
  have F22 : Fr (fun a k => a = x + 71 ∧ k = 7) h19 (uI h19 (x + 71) 7 0) := fr_uI ⟨rfl, rfl⟩
  have FB : Fr (fun a k => a = x + 36 ∨ (x + 38 ≤ a ∧ a ≤ x + 40) ∨ (a = x + 71 ∧ k = 7)) h13 (uI h19 (x + 71) 7 0) := ((F16.mono (fun a k e => Or.inl e)).trans (F19.mono (fun a k e => Or.inr (Or.inl (sp e))))).trans (F22.mono (fun a k e => Or.inr (Or.inr e)))
  have w7 : hI (uI h19 (x + 71) 7 0) (x + 71) 7 = 0 := hI_uIs
  have rV22 : RepV (uI h19 (x + 71) 7 0) (x + 36) (V0 (orD T n) V) := (rV16.fr F19 (fun k => n19 _ _ (by omega))).fr F22 (fun k => by omega)
  have rP22 : RepP (uI h19 (x + 71) 7 0) (x + 38) K 0 Im 0 := rP19.fr F22 (fun i k hi => by omega)
  generalize uI h19 (x + 71) 7 0 = h22 at *
  have q1 : hS h22 x = some (.inl 0) := by rw [FB.2.1]; exact b1
  have q3 : hR h22 x 3 = some o' := by rw [(FB.2.2.2 x 3 (by omega)).2.2]; exact y3
  have rO22 : RepO h22 o' (orD T n) := rO13.fr FB (fun i k hi => by omega) W5
  refine ok_gd q1 (ok_bR q3 (ok_gd rO22.1.1 (ok_lt (ok_gd q1 ?_))))
  rw [rO22.2.1.2.2.1]
  refine ok_bde (e_B_grant q1) (ok_ret ?_)
  have F26 : Fr (fun a k => a = x ∧ k = 15) h22 (uI h22 x 15 0) := fr_uI ⟨rfl, rfl⟩
  have FC : Fr (fun a k => a = x + 36 ∨ (x + 38 ≤ a ∧ a ≤ x + 40) ∨ (a = x + 71 ∧ k = 7) ∨ (a = x ∧ k = 15)) h13 (uI h22 x 15 0) := (FB.mono (fun a k e => by omega)).trans (F26.mono (fun a k e => by omega))
  have LR26 : LayRd (uI h22 x 15 0) (x + 2) := by
    obtain ⟨m1, m2, m3, m4, m5⟩ := LR13
    unfold LayRd
    rw [FC.2.1, (FC.2.2.2 (x + 2) 13 (by omega)).2.2, (FC.2.2.2 (x + 2) 14 (by omega)).2.2, (FC.2.2.2 (x + 2) 15 (by omega)).2.2]
    exact ⟨m1, m2, m3, m4, m5⟩
  refine ⟨rfl, (FA.mono (fun a k e => by rcases e with q | q; (show inB x a; unfold inB; omega); (have := sy q; show inB x a; unfold inB; omega))).trans (FC.mono (fun a k e => by show inB x a; unfold inB; omega)), ⟨o', o, by omega, LB13.or FC LR26 (fun a k e => by omega), ?_, ?_, rO22.fr F26 (fun i k hi => by omega) W5, lO13.fr FC (fun i k hi => by omega), rV22.fr F26 (fun k => by omega), rP22.fr F26 (fun i k hi => by omega), ?_, fun p hp => absurd hp (Nat.not_lt_zero _), ?_, Or.inl ?_⟩, hI_uIs⟩
  · rw [(FC.2.2.2 x 3 (by omega)).2.2]; exact y3
  · rw [(FC.2.2.2 x 4 (by omega)).2.2]; exact y4
  · rw [(FC.2.2.2 x 1 (by omega)).1]; exact y1
  · rw [(FC.2.2.2 x 14 (by omega)).1]; exact y14
  · rw [hI_uIa (by omega)]; exact w7
end OR
