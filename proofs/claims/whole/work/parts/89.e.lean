/-! likely, jerkMean: both sides -/
section P9
variable {S : Nat → Nat → Prop} {h h' h1 : Hp} {x m c j tl nc q w : Nat} {D : DD} {V : Nat → Nat} {K Im : Nat → Nat → Nat} {T : Nat → Int32} {fa : Int32}
theorem RB.frH (R : RB h x D V K c Im j T tl fa) (W : Wf D) (F : Fr S h h') (hS' : ∀ a k, S a k → (a = x ∧ k = 15) ∨ sH (x + 85) a) (lH : LayH h' (x + 85)) : RB h' x D V K c Im j T tl fa := by
  obtain ⟨o, o', ho, L, r3, r4, rO, rD, rV, rP, t1, t2, f1, sUs⟩ := R
  have no : ∀ a k, ¬ ((a = x ∧ k = 15) ∨ sH (x + 85) a) → ¬ S a k := fun a k hn e => hn (hS' a k e)
  have L' : LayB h' x := by
    -- only numbers of the state and the past changed besides
    obtain ⟨⟨x1, x2, x3, x4, x5, x6, x7, x8, x9, x10, x11, x12, x13⟩, ⟨r1, r2, r3, r4, r5⟩, lC, ⟨k1, k2, k3, k4, k5⟩, ⟨s1, s2, s3, s4, s5, s6⟩, ⟨g1, g2, g3, g4⟩, c1, c2, c3, c4⟩ := L
    have fS := F.2.1
    have nr : ∀ a k, ¬ ((a = x ∧ k = 15) ∨ sH (x + 85) a) → hR h' a k = hR h a k := fun a k hn => (F.2.2.2 a k (no a k hn)).2.2
    have nx : ∀ k, k ≠ 7 → k ≠ 15 → hR h' x k = hR h x k := fun k h1 h2 => nr x k (by unfold sH; omega)
    refine ⟨?_, ?_, lC.fr F (fun a k e => ?_), ?_, ?_, ?_, ?_⟩
    · unfold LayX
      rw [fS, nx 0 (by decide) (by decide), nx 2 (by decide) (by decide), nx 5 (by decide) (by decide), nx 6 (by decide) (by decide), nx 8 (by decide) (by decide), nx 9 (by decide) (by decide), nx 10 (by decide) (by decide), nx 11 (by decide) (by decide), nx 12 (by decide) (by decide), nx 13 (by decide) (by decide)]
      exact ⟨x1, x2, x3, x4, x5, x6, x7, x8, x9, x10, x11, x12, x13⟩
    · unfold LayRd
      rw [fS, nr (x + 2) 13 (by unfold sH; omega), nr (x + 2) 14 (by unfold sH; omega), nr (x + 2) 15 (by unfold sH; omega)]
      exact ⟨r1, r2, r3, r4, r5⟩
    · have g := hS' _ _ e
      unfold sH at g
      unfold sC
      omega
    · unfold LayK
      rw [fS, nr (x + 67) 0 (by unfold sH; omega), nr (x + 67) 1 (by unfold sH; omega), nr (x + 67) 2 (by unfold sH; omega)]
      exact ⟨k1, k2, k3, k4, k5⟩
    · unfold LayS
      rw [fS, nr (x + 71) 0 (by unfold sH; omega), nr (x + 71) 1 (by unfold sH; omega), nr (x + 71) 2 (by unfold sH; omega), nr (x + 71) 3 (by unfold sH; omega)]
      exact ⟨s1, s2, s3, s4, s5, s6⟩
    · unfold LayG
      rw [fS, nr (x + 76) 0 (by unfold sH; omega)]
      exact ⟨g1, g2, g3, fun i hi => ⟨by rw [nr (x + 76 + 1) i (by unfold sH; omega)]; exact (g4 i hi).1, (g4 i hi).2⟩⟩
    · exact lH
  refine ⟨o, o', ho, L', ?_, ?_, rO.fr F (fun i k hi => no _ _ ?_) W.1, rD.fr F (fun i k hi => no _ _ ?_), rV.fr F (fun k => no _ _ (by unfold sH; omega)), rP.fr F (fun i k hi => no _ _ (by unfold sH; omega)), ?_, fun p hp => ?_, ?_, sUs.fr F (fun i k hi => no _ _ ?_)⟩
  · rw [(F.2.2.2 x 3 (no _ _ (by unfold sH; omega))).2.2]
    exact r3
  · rw [(F.2.2.2 x 4 (no _ _ (by unfold sH; omega))).2.2]
    exact r4
  · unfold sH
    omega
  · unfold sH
    omega
  · rw [(F.2.2.2 x 1 (no _ _ (by unfold sH; omega))).1]
    exact t1
  · rw [(F.2.2.2 (x + 1) p (no _ _ (by unfold sH; omega))).1]
    exact t2 p hp
  · rw [(F.2.2.2 x 14 (no _ _ (by unfold sH; omega))).1]
    exact f1
  · unfold sH
    omega
theorem qB_r64 {v : Int32} (F : Fr (ScB x) h h1) (hs : hS h1 x = some (.inl 0)) : QB x h (gd (hS h1 x = some (.inl 0)) (bd (f_B_refuse x v h1) fun r h2 => some (r.toInt64, h2))) ((-1 : Int32).toInt64) v := by
  refine ok_gd hs (ok_bde (e_B_refuse hs) (ok_ret ⟨rfl, F.trans (fr_uI ScB_15), hI_uIs⟩))
theorem qM_r64 {v : Int32} (F : Fr (ScM m) h h1) (hs : hS h1 m = some (.inl 11)) : QM m h (gd (hS h1 m = some (.inl 11)) (bd (f_m_refused m v h1) fun r h2 => some (r.toInt64, h2))) ((-1 : Int32).toInt64) v :=
  ok_gd hs (ok_bde (e_m_refused hs) (ok_ret ⟨rfl, qM_fin F⟩))
theorem PairA.qq {α : Type} {F : Option (α × Hp)} {G : Hp → Option (α × Hp)} {r : α} {t : Int32} (W : Wst D V K c Im j tl nc) (hn : nc < 512) (ht : t ≠ 4) (hB : Ok F (fun r' h' => r' = r ∧ Fr (fun a _ => inB x a) h h' ∧ RB h' x D V K c Im j T tl fa ∧ hI h' x 15 = t)) (hM : ∀ h1, RM h1 m D V K c Im j T tl fa → QM m h1 (G h1) r t) : PairA x h m (fun h1 => RM h1 m D V K c Im j T tl fa) T tl fa nc F G :=
  ⟨r, t, D, V, K, c, Im, j, ht, W.up hn, hB, fun h1 M => ok_mono (hM h1 M) (fun r' h' hh => ⟨hh.1, hh.2.1.mono (fun a k e => ScM_in e), M.fr hh.2.1 (fun a k e => Or.inl e), hh.2.2⟩)⟩
theorem DX.fy (X : DX h m q D V) (F : Fk (sY m) h h') : DX h' m q D V := by
  obtain ⟨x1, x2, x3, x4, x5, x6, x7⟩ := X
  exact ⟨x1.fk F, by rw [F.2.2.2.1]; exact x2, x3, x4.fk F (fun i k hi e => by unfold sY at e; omega), x5, x6.fk F (fun k e => by unfold sY at e; omega), x7⟩
theorem sl2 : ∀ n, n < 7 → (1 : Int32) <<< (nI n &&& 31) = nI (2 ^ n) := by decide
theorem two6 {n : Nat} (hn : n ≤ 6) : 2 ^ n ≤ 64 := Nat.le_trans (Nat.pow_le_pow_right (n := 2) (by decide) hn) (by decide)
theorem cj_le (i k : Nat) : cj (aA D V w) (aJ D V w) (aS D w) (asJ D w) (V (3 + w)) i k ≤ 2 * i := by
  induction i with
  | zero => exact Nat.le_refl 0
  | succ i ih =>
    show cj (aA D V w) (aJ D V w) (aS D w) (asJ D w) (V (3 + w)) i k + aJ D V w i (cx (aA D V w) (aS D w) (V (3 + w)) i k) + (if k.testBit i = true then asJ D w (aA D V w i (cx (aA D V w) (aS D w) (V (3 + w)) i k)) else 0) ≤ 2 * (i + 1)
    have h1 : aJ D V w i (cx (aA D V w) (aS D w) (V (3 + w)) i k) ≤ 1 := by unfold aJ; split <;> omega
    have h2 : (if k.testBit i = true then asJ D w (aA D V w i (cx (aA D V w) (aS D w) (V (3 + w)) i k)) else 0) ≤ 1 := by
      split
      · unfold asJ
        split <;> omega
      · omega
    omega
theorem xB {n : Nat} (W : Wf D) (hn : n ≤ 6) : 0 < 100 ^ n ∧ 100 ^ n < 2 ^ 44 ∧ (∀ t, xE D V w n (ind t) < 2 ^ 44) ∧ xJ D V w n < 2 ^ 44 := by
  have h6 := p100 hn
  have h0 : 0 < 100 ^ n := Nat.pow_pos (by decide)
  have hj := xJ_le (D := D) (V := V) (w := w) W n
  have hj2 : 2 * n * 100 ^ n ≤ 12 * 1000000000000 := Nat.mul_le_mul (by omega) h6
  refine ⟨h0, by omega, fun t => ?_, by omega⟩
  have := xE_le (D := D) (V := V) (w := w) W n t
  omega
/-- the class answers by its chances -/
theorem hcB (W : Wst D V K c Im j tl nc) (R : RB h x D V K c Im j T tl fa) (hw : w < dW D) {n : Nat} (hn : n ≤ 6) {B : Hp → Option (Int64 × Hp)} {Q : Int64 → Hp → Prop} (kB : ∀ h2, Fr (fun a k => (a = x ∧ k = 15) ∨ sH (x + 85) a) h h2 → HC h2 (x + 85) D V w n → hI h2 x 15 = 0 → Ok (B h2) Q) : Ok (gd (hS h x = some (.inl 0)) (bd (f_B_grant x (0 : Int32) h) fun r9 h8 => gd (hS h8 x = some (.inl 0)) (bR (hR h8 x 13) fun x10 => gd (hS h8 x = some (.inl 0)) (bR (hR h8 x 3) fun x11 => gd (hS h8 x = some (.inl 0)) (bR (hR h8 x 5) fun x12 => gd (hS h8 x10 = some (.inl 10)) (bd (f_H_spread x10 x11 x12 (nI w) (nI n) h8) fun _ h13 => B h13)))))) Q := by
  obtain ⟨o, o', ho, LB, r3, r4, rO, rD, rV, rP, t1, t2, f1, sUs⟩ := id R; obtain ⟨⟨x1, x2, x3, x4, x5, x6, x7, x8, x9, x10, x11, x12, x13⟩, LR, LC, LK, LS, LG, LH⟩ := id LB
  have W1 := W.1.1
  have F1 : Fr (fun a k => (a = x ∧ k = 15) ∨ sH (x + 85) a) h (uI h x 15 0) := fr_uI (Or.inl ⟨rfl, rfl⟩)
  refine ok_gd x1 (ok_bde (e_B_grant x1) (ok_gd x1 (ok_bR x11 (ok_gd x1 (ok_bR r3 (ok_gd x1 (ok_bR x4 (ok_gd LH.1 (ok_bd ?_)))))))))
  refine ok_mono (ok_H_spread W1 (show LayH (uI h x 15 0) (x + 85) from LH) (rO.fr F1 (fun i k hi => by unfold sH; omega) W1.1) (rV.fr F1 (fun k => by unfold sH; omega)) (W.2.1.v W.2.2.2.2.2.1) hw (by omega) (by omega) hn) ?_
  intro _ h2 hx
  refine kB h2 (F1.trans (hx.1.mono (fun a k e => Or.inr e))) hx.2 ?_
  rw [(hx.1.2.2.2 x 15 (by unfold sH; omega)).1, hI_uIs]
theorem hcF (W : Wst D V K c Im j tl nc) (R : RB h x D V K c Im j T tl fa) {n : Nat} (F : Fr (fun a k => (a = x ∧ k = 15) ∨ sH (x + 85) a) h h') (H : HC h' (x + 85) D V w n) : Fr (fun a _ => inB x a) h h' ∧ RB h' x D V K c Im j T tl fa := by
  obtain ⟨o, o', ho, LB, r3, r4, rO, rD, rV, rP, t1, t2, f1, sUs⟩ := id R; obtain ⟨⟨x1, x2, x3, x4, x5, x6, x7, x8, x9, x10, x11, x12, x13⟩, LR, LC, LK, LS, LG, LH⟩ := id LB
  refine ⟨F.mono (fun a k e => by unfold sH at e; show inB x a; unfold inB; omega), R.frH W.1.1 F (fun a k e => e) (H.s (by rw [F.2.1]; exact LH.1) (by rw [F.2.1]; exact LH.2.1) (by rw [F.2.1]; exact LH.2.2.1))⟩
theorem e_rd_n {n lo hi : Int32} : f_m_refusesDays m (bI false) n lo hi h = some (1, h) := by
  unfold f_m_refusesDays
  rw [if_pos bI_0]
theorem e_rd_o {n lo hi : Int32} (ho : n < lo ∨ hi < n) : f_m_refusesDays m (bI true) n lo hi h = some (2, h) := by
  unfold f_m_refusesDays
  rw [if_neg (by decide), e_m_in]
  show (if bI (decide (lo ≤ n ∧ n ≤ hi)) = 0 then _ else _) = _
  rw [decide_eq_false (fun g => by
    rcases ho with q | q
    · exact absurd g.1 (Int32.not_le.mpr q)
    · exact absurd g.2 (Int32.not_le.mpr q)), if_pos bI_0]
theorem e_rd_i {a b i : Nat} (ha : a ≤ i) (hb : i ≤ b) (hb2 : b < 2 ^ 31) : f_m_refusesDays m (bI true) (nI i) (nI a) (nI b) h = some (0, h) := by
  unfold f_m_refusesDays
  rw [if_neg (by decide), e_m_in]
  show (if bI (decide (nI a ≤ nI i ∧ nI i ≤ nI b)) = 0 then _ else _) = _
  rw [decide_eq_true ⟨nI_le ha (by omega), nI_le hb hb2⟩, if_neg (by decide)]
theorem a_jerkMean (W : Wst D V K c Im j tl nc) (hnc : nc < 512) (R : RB h x D V K c Im j T tl fa) (v n b : Int32) : PairA x h m (fun h1 => RM h1 m D V K c Im j T tl fa) T tl fa nc (f_B_jerkMean x v n b h) (f_m_jerkMean m v n b) := by
  obtain ⟨o, o', ho, LB, r3, r4, rO, rD, rV, rP, t1, t2, f1, sUs⟩ := id R; obtain ⟨⟨x1, x2, x3, x4, x5, x6, x7, x8, x9, x10, x11, x12, x13⟩, LR, LC, LK, LS, LG, LH⟩ := id LB
  have w1 := W.1.1.1
  cases hb : isN (dW D) v with
  | false =>
    refine Pair.a W hnc R ⟨(-1 : Int32).toInt64, 1, by decide, ?_, fun h1 M => qM_st M (fun h0 M F _ => ?_)⟩
    · unfold f_B_jerkMean
      refine ok_gd x1 (ok_bde (e_B_hasWheel x1 r3 rO w1 v) ?_)
      rw [hb]
      exact ok_t rfl (qB_r64 Fr.rf x1)
    · refine ok_gd M.1.1 (ok_bde (e_m_isWheel M w1 v) (ok_gd M.1.1 ?_))
      rw [hb]
      exact ok_bde e_rd_n (ok_f (by decide) (qM_r64 F M.1.1))
  | true =>
    obtain ⟨w, hw, rfl⟩ := isN_ex (by omega) hb
    rcases dy_cases n (lo := 0) (hi := 6) (by decide) (by decide) with ho2 | ⟨d, hd0, hd, rfl⟩
    · refine Pair.a W hnc R ⟨(-1 : Int32).toInt64, 2, by decide, ?_, fun h1 M => qM_st M (fun h0 M F _ => ?_)⟩
      · unfold f_B_jerkMean b_B_jerkMean_25
        refine ok_gd x1 (ok_bde (e_B_hasWheel x1 r3 rO w1 _) ?_)
        rw [hb]
        exact ok_f (by decide) (dyB_out ho2 (qB_r64 Fr.rf x1))
      · refine ok_gd M.1.1 (ok_bde (e_m_isWheel M w1 _) (ok_gd M.1.1 ?_))
        rw [hb]
        exact ok_bde (e_rd_o ho2) (ok_f (by decide) (qM_r64 F M.1.1))
    · obtain ⟨y0, y1, -, y3⟩ := xB (D := D) (V := V) (w := w) W.1.1 hd
      refine PairA.qq (r := lowA (xJ D V w d) (100 ^ d) b) (t := 0) W hnc (by decide) ?_ (fun h1 M => qM_st M (fun h0 M F _ => ?_))
      · unfold f_B_jerkMean
        refine ok_gd x1 (ok_bde (e_B_hasWheel x1 r3 rO w1 _) ?_)
        rw [hb]
        refine ok_f (by decide) (dyB_in (lo := 0) (hi := 6) hd0 hd (by decide) (hcB W R hw hd (fun h2 F2 H2 t2 => ?_)))
        obtain ⟨G1, G2⟩ := hcF W R F2 H2
        obtain ⟨o2, o2', -, LB2, -⟩ := id G2
        have c13 := LB2.1.2.2.2.2.2.2.2.2.2.2.1
        have c1 := LB2.2.2.2.2.2.2.1
        refine ok_gd LB2.1.1 (ok_bR c13 (ok_gd LB2.1.1 (ok_bR c13 (ok_gd c1 (ok_lt (ok_gd c1 ?_))))))
        obtain ⟨-, -, -, -, -, -, zj, zw⟩ := id H2
        rw [zj]
        refine ok_bd (ok_mono (ok_H_lowest c1 zw y3 y0 y1) ?_)
        intro r h3 hx
        obtain ⟨rfl, rfl⟩ := hx
        exact ok_ret ⟨rfl, G1, G2, t2⟩
      · refine ok_gd M.1.1 (ok_bde (e_m_isWheel M w1 _) (ok_gd M.1.1 ?_))
        rw [hb]
        refine ok_bde (e_rd_i (a := 0) (b := 6) hd0 hd (by decide)) (ok_t (by decide) (ok_lt (ok_lt ?_)))
        obtain ⟨q, X, hq⟩ := M.dx W (by omega)
        have h2n := two6 hd
        refine ok_up (2 ^ d) (fun k st h' => st = (m, nI w, nI d, b, lN (smN (fun c => cp (dSl D) d c * cj (aA D V w) (aJ D V w) (aS D w) (asJ D w) (V (3 + w)) d c) k), nI k) ∧ Fk (sY m) h0 h') ?_ FU 0 _ _ (Nat.zero_le _) ⟨by rw [← lN_0]; rfl, Fk.rf⟩ (by show _ < 10000; omega)
        intro kk k st h2 hk hI kn
        obtain ⟨rfl, F2⟩ := hI
        have X2 := X.fy F2
        show Ok (b_m_jerkMean_39 kk m (nI w) (nI d) b _ (nI k) h2) _
        unfold b_m_jerkMean_39
        rw [sl2 d (by omega)]
        refine ok_it hk (by omega) (fun e => ?_) (fun e => ?_)
        · subst e
          refine ok_bd (ok_mono (ok_m_wholeOf hd) ?_)
          intro r h3 hx
          obtain ⟨rfl, rfl⟩ := hx
          refine ok_gd X2.1.1 (ok_bd (ok_mono (ok_m_fraction (a := xJ D V w d) X2.1.1 y3 y0 y1) ?_))
          intro r h4 hx
          obtain ⟨rfl, rfl⟩ := hx
          exact ok_ret ⟨rfl, qM_fin (F.trans (F2.r.mono (fun a k e => by unfold sY at e; unfold ScM; omega)))⟩
        · refine ok_gd X2.1.1 (ok_bd (ok_mono (ok_m_slipsBy X2 hw (c := k) hd) ?_))
          intro r h3 hx
          obtain ⟨rfl, F3, j3⟩ := hx
          have F4 := F2.trans F3
          have X3 := X.fy F4
          refine ok_gd X3.1.1 (ok_bd (ok_mono (ok_m_part X3 (c := k) hd) ?_))
          intro r h4 hx
          obtain ⟨rfl, rfl⟩ := hx
          refine ok_gd X3.1.1 (ok_lt (ok_lt ?_))
          have hcj := cj_le (D := D) (V := V) (w := w) d k
          rw [j3, nI_l (by omega), lN_mul, lN_add]
          exact kn _ _ e ⟨by rw [nI_1]; rfl, F4⟩
theorem a_likely (W : Wst D V K c Im j tl nc) (hnc : nc < 512) (R : RB h x D V K c Im j T tl fa) (v t n b : Int32) : PairA x h m (fun h1 => RM h1 m D V K c Im j T tl fa) T tl fa nc (f_B_likely x v t n b h) (f_m_likely m v t n b) := by
  obtain ⟨o, o', ho, LB, r3, r4, rO, rD, rV, rP, t1, t2, f1, sUs⟩ := id R; obtain ⟨⟨x1, x2, x3, x4, x5, x6, x7, x8, x9, x10, x11, x12, x13⟩, LR, LC, LK, LS, LG, LH⟩ := id LB
  have w1 := W.1.1.1
  cases hb : isN (dW D) v with
  | false =>
    refine Pair.a W hnc R ⟨(-1 : Int32).toInt64, 1, by decide, ?_, fun h1 M => qM_st M (fun h0 M F _ => ?_)⟩
    · unfold f_B_likely
      refine ok_gd x1 (ok_bde (e_B_hasWheel x1 r3 rO w1 v) ?_)
      rw [hb]
      exact ok_t rfl (qB_r64 Fr.rf x1)
    · refine ok_gd M.1.1 (ok_bde (e_m_isWheel M w1 v) ?_)
      rw [hb]
      exact ok_t rfl (qM_r64 F M.1.1)
  | true =>
    obtain ⟨w, hw, rfl⟩ := isN_ex (by omega) hb
    have hT := W.1.1.2.2.2.2.2.2.2.1 w hw
    have lw := rO.1.2.2.2.2.2.2.2 w (by omega)
    have rw0 := rO.2.2.1 w hw
    have ht0 := e_W_hasTooth lw.2 rw0.2.1 t
    have hin : ∀ h0 : Hp, f_m_in t 0 (nI (dT D w) - 1) h0 = some (bI (isN (dT D w) t), h0) := by
      intro h0
      rw [nI_s (by omega), e_m_in]
      have : decide (0 ≤ t ∧ t ≤ nI (dT D w - 1)) = isN (dT D w) t := by
        unfold isN
        refine decide_eq_decide.mpr ⟨fun g => ⟨g.1, Int32.lt_of_le_of_lt g.2 (nI_lt (by omega) (by omega))⟩, fun g => ⟨g.1, ?_⟩⟩
        obtain ⟨k, hk, rfl⟩ := isN_ex (N := dT D w) (v := t) (by omega) (decide_eq_true g)
        exact nI_le (by omega) (by omega)
      rw [this]
    have bad : (isN (dT D w) t = false ∨ (n < nI 0 ∨ nI 6 < n)) → Pair x h m (fun h1 => RM h1 m D V K c Im j T tl fa) (f_B_likely x (nI w) t n b h) (f_m_likely m (nI w) t n b) := by
      intro hbad
      refine ⟨(-1 : Int32).toInt64, 2, by decide, ?_, fun h1 M => qM_st M (fun h0 M F _ => ?_)⟩
      · unfold f_B_likely b_B_likely_41
        refine ok_gd x1 (ok_bde (e_B_hasWheel x1 r3 rO w1 _) ?_)
        rw [hb]
        refine ok_f (by decide) (ok_gd x1 (ok_bR r3 (ok_gd rO.1.1 (ok_bR rO.1.2.1.1 (ok_gd (ai_of rO.1.2.2.1 (by omega) (by decide)) ?_)))))
        rw [nI_clamp (by omega)]
        refine ok_bR lw.1 (ok_gd lw.2 (ok_bde ht0 ?_))
        rcases hbad with g | g
        · rw [if_neg (of_decide_eq_false g)]
          exact ok_t rfl (qB_r64 Fr.rf x1)
        · refine ok_ite (fun _ => qB_r64 Fr.rf x1) (fun _ => ?_)
          exact dyB_out g (qB_r64 Fr.rf x1)
      · refine ok_gd M.1.1 (ok_bde (e_m_isWheel M w1 _) ?_)
        rw [hb]
        obtain ⟨q, X, hq⟩ := M.dx W (by omega)
        obtain ⟨-, hq3, -, RQ, -⟩ := id X
        have rr := RQ.2.2.1 w hw
        refine ok_f (by decide) (ok_gd M.1.1 (ok_bR hq3 (ok_gd RQ.1.1 (ok_bR (RQ.1.2.1 1 (by decide)) (ok_gd (ai_of (RQ.1.2.2.1 1 (by decide)) (by omega) (by decide)) (ok_lt ?_))))))
        rw [nI_clamp (by omega), show hI h0 (q + 1 + 1) w = nI (dT D w) from rr.2.1]
        refine ok_bde (hin h0) ?_
        unfold b_m_likely_49
        rcases hbad with g | g
        · rw [g]
          exact ok_t rfl (qM_r64 F M.1.1)
        · refine ok_ite (fun _ => qM_r64 F M.1.1) (fun _ => ok_bde e_m_in ?_)
          rw [decide_eq_false (fun g2 => by
            rcases g with q | q
            · exact absurd g2.1 (Int32.not_le.mpr q)
            · exact absurd g2.2 (Int32.not_le.mpr q))]
          exact ok_t rfl (qM_r64 F M.1.1)
    cases ht : isN (dT D w) t with
    | false => exact Pair.a W hnc R (bad (Or.inl ht))
    | true =>
      rcases dy_cases n (lo := 0) (hi := 6) (by decide) (by decide) with ho2 | ⟨d, hd0, hd, rfl⟩
      · exact Pair.a W hnc R (bad (Or.inr ho2))
      · have htt : 0 ≤ t ∧ t < nI (dT D w) := of_decide_eq_true ht
        obtain ⟨u, hu, rfl⟩ := isN_ex (by omega) ht
        obtain ⟨y0, y1, y2, -⟩ := xB (D := D) (V := V) (w := w) W.1.1 hd
        refine PairA.qq (r := lowA (xE D V w d (ind u)) (100 ^ d) b) (t := 0) W hnc (by decide) ?_ (fun h1 M => qM_st M (fun h0 M F _ => ?_))
        · unfold f_B_likely
          refine ok_gd x1 (ok_bde (e_B_hasWheel x1 r3 rO w1 _) ?_)
          rw [hb]
          refine ok_f (by decide) (ok_gd x1 (ok_bR r3 (ok_gd rO.1.1 (ok_bR rO.1.2.1.1 (ok_gd (ai_of rO.1.2.2.1 (by omega) (by decide)) ?_)))))
          rw [nI_clamp (by omega)]
          refine ok_bR lw.1 (ok_gd lw.2 (ok_bde ht0 ?_))
          rw [if_pos htt]
          refine ok_f (by decide) (dyB_in (lo := 0) (hi := 6) hd0 hd (by decide) (hcB W R hw hd (fun h2 F2 H2 t2 => ?_)))
          obtain ⟨G1, G2⟩ := hcF W R F2 H2
          obtain ⟨o2, o2', -, LB2, -⟩ := id G2
          have c13 := LB2.1.2.2.2.2.2.2.2.2.2.2.1
          have c1 := LB2.2.2.2.2.2.2.1
          obtain ⟨a, b', hab, ha, -, za, -, zw⟩ := id H2
          have sa : hS h2 a = some (.inr (1, 60)) := by
            rcases hab with ⟨rfl, -⟩ | ⟨rfl, -⟩
            · exact LB2.2.2.2.2.2.2.2.1
            · exact LB2.2.2.2.2.2.2.2.2.1
          refine ok_gd LB2.1.1 (ok_bR c13 (ok_gd LB2.1.1 (ok_bR c13 (ok_gd c1 (ok_bR ha (ok_gd (ai_of sa (by omega) (by decide)) (ok_lt (ok_gd c1 ?_))))))))
          rw [nI_clamp (by omega), za u (by omega)]
          refine ok_bd (ok_mono (ok_H_lowest c1 zw (y2 u) y0 y1) ?_)
          intro r h3 hx
          obtain ⟨rfl, rfl⟩ := hx
          exact ok_ret ⟨rfl, G1, G2, t2⟩
        · refine ok_gd M.1.1 (ok_bde (e_m_isWheel M w1 _) ?_)
          rw [hb]
          obtain ⟨q, X, hq⟩ := M.dx W (by omega)
          obtain ⟨-, hq3, -, RQ, -⟩ := id X
          have rr := RQ.2.2.1 w hw
          refine ok_f (by decide) (ok_gd M.1.1 (ok_bR hq3 (ok_gd RQ.1.1 (ok_bR (RQ.1.2.1 1 (by decide)) (ok_gd (ai_of (RQ.1.2.2.1 1 (by decide)) (by omega) (by decide)) (ok_lt ?_))))))
          rw [nI_clamp (by omega), show hI h0 (q + 1 + 1) w = nI (dT D w) from rr.2.1]
          refine ok_bde (hin h0) ?_
          rw [ht]
          refine ok_f (by decide) (ok_bde e_m_in ?_)
          rw [decide_eq_true (show (0 : Int32) ≤ nI d ∧ nI d ≤ 6 from ⟨nI_pos' (by omega), nI_le (b := 6) hd (by decide)⟩)]
          refine ok_f (by decide) (ok_lt (ok_lt ?_))
          have h2n := two6 hd
          refine ok_up (2 ^ d) (fun k st h' => st = (m, nI w, nI u, nI d, b, lN (smN (fun c => cp (dSl D) d c * ind u (cx (aA D V w) (aS D w) (V (3 + w)) d c)) k), nI k) ∧ Fk (sY m) h0 h') ?_ FU 0 _ _ (Nat.zero_le _) ⟨by rw [← lN_0]; rfl, Fk.rf⟩ (by show _ < 10000; omega)
          intro kk k st h2 hk hI kn
          obtain ⟨rfl, F2⟩ := hI
          have X2 := X.fy F2
          show Ok (b_m_likely_62 kk m (nI w) (nI u) (nI d) b _ (nI k) h2) _
          unfold b_m_likely_62 b_m_likely_95
          rw [sl2 d (by omega)]
          refine ok_it hk (by omega) (fun e => ?_) (fun e => ?_)
          · subst e
            refine ok_bd (ok_mono (ok_m_wholeOf hd) ?_)
            intro r h3 hx
            obtain ⟨rfl, rfl⟩ := hx
            refine ok_gd X2.1.1 (ok_bd (ok_mono (ok_m_fraction (a := xE D V w d (ind u)) X2.1.1 (y2 u) y0 y1) ?_))
            intro r h4 hx
            obtain ⟨rfl, rfl⟩ := hx
            exact ok_ret ⟨rfl, qM_fin (F.trans (F2.r.mono (fun a k e => by unfold sY at e; unfold ScM; omega)))⟩
          · refine ok_gd X2.1.1 (ok_bd (ok_mono (ok_m_slipsBy X2 hw (c := k) hd) ?_))
            intro r h3 hx
            obtain ⟨rfl, F3, j3⟩ := hx
            have F4 := F2.trans F3
            have X3 := X.fy F4
            have hxk : cx (aA D V w) (aS D w) (V (3 + w)) d k < dT D w := cx_lt _ _ _ (X.2.2.2.2.2.2.2.2.2 w hw) (fun i u hu => aA_lt W.1.1 hw i u hu) (fun u hu => aS_lt W.1.1 hw u hu) d k
            refine ok_ieq (by omega) (by omega) (fun e2 => ?_) (fun e2 => ?_)
            · refine ok_gd X3.1.1 (ok_bd (ok_mono (ok_m_part X3 (c := k) hd) ?_))
              intro r h4 hx
              obtain ⟨rfl, rfl⟩ := hx
              refine ok_lt ?_
              rw [lN_add]
              refine kn _ _ e ⟨?_, F4⟩
              rw [nI_1]
              show _ = (m, nI w, nI u, nI d, b, lN (_ + cp (dSl D) d k * ind u (cx (aA D V w) (aS D w) (V (3 + w)) d k)), nI (k + 1))
              rw [show ind u (cx (aA D V w) (aS D w) (V (3 + w)) d k) = 1 from if_pos e2, Nat.mul_one]
            · refine ok_lt (kn _ _ e ⟨?_, F4⟩)
              rw [nI_1, Int64.add_zero]
              show _ = (m, nI w, nI u, nI d, b, lN (_ + cp (dSl D) d k * ind u (cx (aA D V w) (aS D w) (V (3 + w)) d k)), nI (k + 1))
              rw [show ind u (cx (aA D V w) (aS D w) (V (3 + w)) d k) = 0 from if_neg e2, Nat.mul_zero]
              rfl
end P9
