/-! feed: both sides -/
def byF (a : Int32) (i : Nat) : Int32 := ((a >>> ((24 - nI (8 * i)) &&& 31)).toInt8.toInt32).toInt8.toInt32
def seF (a b c d e : Int32) (i : Nat) : Int32 := if i < 4 then a else if i < 8 then b else if i < 12 then c else if i < 16 then d else e
def feT (T : Nat → Int32) (tl : Nat) (a b c d e : Int32) (p : Nat) : Int32 := if p < tl then T p else byF (seF a b c d e (p - tl)) ((p - tl) % 4)
/-- what was fed: the tape is longer, all else is what it was -/
def PairF (x : Nat) (h : Hp) (m : Nat) (P : Hp → Prop) (D : DD) (V : Nat → Nat) (K : Nat → Nat → Nat) (c : Nat) (Im : Nat → Nat → Nat) (j : Nat) (fa : Int32) (nc : Nat) (F : Option (Int32 × Hp)) (G : Hp → Option (Int32 × Hp)) : Prop := ∃ r T tl, (∀ p, p < tl → ∃ b : Int8, T p = b.toInt32) ∧ Wst D V K c Im j tl (nc + 1) ∧ Ok F (fun r' h' => r' = r ∧ Fr (fun a _ => inB x a) h h' ∧ RB h' x D V K c Im j T tl fa ∧ hI h' x 15 = hI h x 15 ∧ hI h' (x + 2) 5 = hI h (x + 2) 5) ∧ ∀ h1, P h1 → Ok (G h1) (fun r' h2 => r' = r ∧ Fr (fun a _ => inM m a) h1 h2 ∧ RM h2 m D V K c Im j T tl fa ∧ hI h2 m 1 = hI h1 m 1 ∧ hI h2 m 2 = hI h1 m 2)
section FE
variable {S : Nat → Nat → Prop} {h h' h1 : Hp} {x m c j tl nc : Nat} {D : DD} {V : Nat → Nat} {K Im : Nat → Nat → Nat} {T : Nat → Int32} {fa : Int32}
theorem RB.frT {T2 : Nat → Int32} {tl2 : Nat} (R : RB h x D V K c Im j T tl fa) (W : Wf D) (F : Fr S h h') (hS' : ∀ a k, S a k → (a = x ∧ k = 1) ∨ a = x + 1) (e1 : hI h' x 1 = nI tl2) (e2 : ∀ p, p < tl2 → hI h' (x + 1) p = T2 p) : RB h' x D V K c Im j T2 tl2 fa := by
  obtain ⟨o, o', ho, L, r3, r4, rO, rD, rV, rP, t1, t2, f1, sUs⟩ := R
  have no : ∀ a k, ¬ ((a = x ∧ k = 1) ∨ a = x + 1) → ¬ S a k := fun a k hn e => hn (hS' a k e)
  have L' : LayB h' x := by
    -- only numbers of the state and the past changed besides
    obtain ⟨⟨x1, x2, x3, x4, x5, x6, x7, x8, x9, x10, x11, x12, x13⟩, ⟨r1, r2, r3, r4, r5⟩, lC, ⟨k1, k2, k3, k4, k5⟩, ⟨s1, s2, s3, s4, s5, s6⟩, ⟨g1, g2, g3, g4⟩, c1, c2, c3, c4⟩ := L
    have fS := F.2.1
    have nr : ∀ a k, ¬ ((a = x ∧ k = 1) ∨ a = x + 1) → hR h' a k = hR h a k := fun a k hn => (F.2.2.2 a k (no a k hn)).2.2
    have nx : ∀ k, k ≠ 1 → k ≠ 15 → hR h' x k = hR h x k := fun k h1 h2 => nr x k (by omega)
    refine ⟨?_, ?_, lC.fr F (fun a k e => ?_), ?_, ?_, ?_, ?_⟩
    · unfold LayX
      rw [fS, nx 0 (by decide) (by decide), nx 2 (by decide) (by decide), nx 5 (by decide) (by decide), nx 6 (by decide) (by decide), nx 8 (by decide) (by decide), nx 9 (by decide) (by decide), nx 10 (by decide) (by decide), nx 11 (by decide) (by decide), nx 12 (by decide) (by decide), nx 13 (by decide) (by decide)]
      exact ⟨x1, x2, x3, x4, x5, x6, x7, x8, x9, x10, x11, x12, x13⟩
    · unfold LayRd
      rw [fS, nr (x + 2) 13 (by omega), nr (x + 2) 14 (by omega), nr (x + 2) 15 (by omega)]
      exact ⟨r1, r2, r3, r4, r5⟩
    · have g := hS' _ _ e
      unfold sC
      omega
    · unfold LayK
      rw [fS, nr (x + 67) 0 (by omega), nr (x + 67) 1 (by omega), nr (x + 67) 2 (by omega)]
      exact ⟨k1, k2, k3, k4, k5⟩
    · unfold LayS
      rw [fS, nr (x + 71) 0 (by omega), nr (x + 71) 1 (by omega), nr (x + 71) 2 (by omega), nr (x + 71) 3 (by omega)]
      exact ⟨s1, s2, s3, s4, s5, s6⟩
    · unfold LayG
      rw [fS, nr (x + 76) 0 (by omega)]
      exact ⟨g1, g2, g3, fun i hi => ⟨by rw [nr (x + 76 + 1) i (by omega)]; exact (g4 i hi).1, (g4 i hi).2⟩⟩
    · unfold LayH
      rw [fS, nr (x + 85) 0 (by omega), nr (x + 85) 1 (by omega)]
      exact ⟨c1, c2, c3, c4⟩
  refine ⟨o, o', ho, L', ?_, ?_, rO.fr F (fun i k hi => no _ _ ?_) W.1, rD.fr F (fun i k hi => no _ _ ?_), rV.fr F (fun k => no _ _ (by omega)), rP.fr F (fun i k hi => no _ _ (by omega)), e1, e2, ?_, sUs.fr F (fun i k hi => no _ _ ?_)⟩
  · rw [(F.2.2.2 x 3 (no _ _ (by omega))).2.2]
    exact r3
  · rw [(F.2.2.2 x 4 (no _ _ (by omega))).2.2]
    exact r4
  · omega
  · omega
  · rw [(F.2.2.2 x 14 (no _ _ (by omega))).1]
    exact f1
  · omega
theorem RM.frT {T2 : Nat → Int32} {tl2 : Nat} (R : RM h m D V K c Im j T tl fa) (F : Fr S h h') (hS' : ∀ a k, S a k → (a = m ∧ (k = 0 ∨ k = 6)) ∨ a = m + 1) (e1 : hI h' m 6 = nI tl2) (e2 : ∀ p, p < tl2 → hI h' (m + 1) p = T2 p) : RM h' m D V K c Im j T2 tl2 fa := by
  obtain ⟨L, r0, r3, rX, rR, t1, t2, f1⟩ := R
  have no : ∀ a k, ¬ ((a = m ∧ (k = 0 ∨ k = 6)) ∨ a = m + 1) → ¬ S a k := fun a k hn e => hn (hS' a k e)
  refine ⟨L.fr F (fun k hk => no _ _ ?_), fun hz => ?_, fun hz => ?_, rX.fr F (fun k => no _ _ (by omega)), rR.fr F (no _ _ (by omega)) (no _ _ (by omega)) (fun k => no _ _ (by omega)) (fun k => no _ _ (by omega)), e1, e2, ?_⟩
  · unfold mRf at hk
    omega
  · rw [(F.2.2.2 m 3 (no _ _ (by omega))).2.2]
    exact r0 hz
  · obtain ⟨q, q1, q2, q3, q4⟩ := r3 hz
    refine ⟨q, ?_, q2, by rw [F.1]; exact q3, q4.fr F (fun i k hi => no _ _ ?_)⟩
    · rw [(F.2.2.2 m 3 (no _ _ (by omega))).2.2]
      exact q1
    · omega
  · rw [(F.2.2.2 m 12 (no _ _ (by omega))).1]
    exact f1
theorem sh8 : ∀ i, i < 4 → (24 - nI (8 * i) : Int32) + (-8) = 24 - nI (8 * (i + 1)) ∧ ¬ (24 - nI (8 * i) : Int32) < 0 := by decide
theorem sh4 : ∀ i, i < 4 → (24 - (8 * nI i) : Int32) = 24 - nI (8 * i) := by decide
theorem ok_B_append {a : Int32} (hx : hS h x = some (.inl 0)) (h0 : hR h x 0 = some (x + 1)) (ht : hS h (x + 1) = some (.inr (2, 900))) (hl : hI h x 1 = nI tl) (hr : tl + 4 ≤ 900) : Ok (f_B_append x a h) (fun _ h' => Fr (fun a k => (a = x ∧ k = 1) ∨ a = x + 1) h h' ∧ hI h' x 1 = nI (tl + 4) ∧ (∀ p, p < tl → hI h' (x + 1) p = hI h (x + 1) p) ∧ ∀ i, i < 4 → hI h' (x + 1) (tl + i) = byF a i) := by
  unfold f_B_append
  refine ok_lt ?_
  refine ok_up 4 (fun i st h' => st = (x, a, 24 - nI (8 * i)) ∧ Fr (fun a k => (a = x ∧ k = 1) ∨ a = x + 1) h h' ∧ hI h' x 1 = nI (tl + i) ∧ (∀ p, p < tl → hI h' (x + 1) p = hI h (x + 1) p) ∧ ∀ u, u < i → hI h' (x + 1) (tl + u) = byF a u) ?_ FU 0 _ _ (Nat.zero_le _) ⟨rfl, Fr.rf, hl, fun p _ => rfl, fun u hu => by omega⟩ (by show _ < 10000; omega)
  intro k i st h2 hi hI kk
  obtain ⟨rfl, F2, l2, b2, n2⟩ := hI
  show Ok (b_B_append_3 k x a (24 - nI (8 * i)) h2) _
  unfold b_B_append_3
  have s2 : hS h2 x = some (.inl 0) := by rw [F2.2.1]; exact hx
  have st2 : hS h2 (x + 1) = some (.inr (2, 900)) := by rw [F2.2.1]; exact ht
  have r2 : hR h2 x 0 = some (x + 1) := by rw [(F2.2.2.2 x 0 (by omega)).2.2]; exact h0
  rcases Nat.lt_or_ge i 4 with e | e
  · refine ok_f (sh8 i e).2 (ok_gd s2 (ok_lt ?_))
    rw [l2]
    refine ok_ile (a := 900) (by decide) (by omega) (fun z => by omega) (fun z => ?_)
    refine ok_gd s2 (ok_bR r2 (ok_gd s2 (ok_lt ?_)))
    refine ok_gd (ai_of st2 (by omega) (by decide)) (ok_lt (ok_gd (by exact s2) (ok_lt (ok_gd (by exact s2) (ok_lt ?_)))))
    rw [nI_clamp (by omega), hI_uIa (by omega), l2, nI_1, (sh8 i e).1]
    refine kk _ _ e ⟨rfl, (F2.trans (fr_uI (Or.inr rfl))).trans (fr_uI (Or.inl ⟨rfl, rfl⟩)), hI_uIs, fun p hp => ?_, fun u hu => ?_⟩
    · rw [hI_uIa (by omega), hI_uIk (by omega)]
      exact b2 p hp
    · rw [hI_uIa (by omega)]
      by_cases z2 : u = i
      · rw [z2, hI_uIs]
        rfl
      · rw [hI_uIk (by omega)]
        exact n2 u (by omega)
  · have : i = 4 := by omega
    subst this
    exact ok_t (by decide) (ok_ret ⟨F2, l2, b2, n2⟩)
theorem Wst.tln {tl2 : Nat} (W : Wst D V K c Im j tl nc) (h : tl2 ≤ 900) : Wst D V K c Im j tl2 nc := ⟨W.1, W.2.1, W.2.2.1, W.2.2.2.1, h, W.2.2.2.2.2.1, W.2.2.2.2.2.2⟩
theorem feT_b {a b d e f : Int32} (hbt : ∀ p, p < tl → ∃ b : Int8, T p = b.toInt32) (p : Nat) : ∃ z : Int8, feT T tl a b d e f p = z.toInt32 := by
  unfold feT
  by_cases q : p < tl
  · rw [if_pos q]; exact hbt p q
  · rw [if_neg q]; exact ⟨_, rfl⟩
theorem a_feed (hbt : ∀ p, p < tl → ∃ b : Int8, T p = b.toInt32) (W : Wst D V K c Im j tl nc) (hnc : nc < 512) (R : RB h x D V K c Im j T tl fa) (a b d e f : Int32) : PairF x h m (fun h1 => RM h1 m D V K c Im j T tl fa) D V K c Im j fa nc (f_B_feed x a b d e f h) (f_m_feed m a b d e f) := by
  obtain ⟨o, o', ho, LB, r3, r4, rO, rD, rV, rP, t1, t2, f1, sUs⟩ := id R; obtain ⟨⟨x1, x2, x3, x4, x5, x6, x7, x8, x9, x10, x11, x12, x13⟩, LR, LC, LK, LS, LG, LH⟩ := id LB
  have htl := W.2.2.2.2.1
  by_cases hr : tl + 20 ≤ 900
  · refine ⟨nI (tl + 20), feT T tl a b d e f, tl + 20, fun p hp => feT_b hbt p, (W.tln hr).up hnc, ?_, fun h1 M => ?_⟩
    · unfold f_B_feed
      refine ok_gd x1 (ok_lt ?_)
      rw [t1, show nI tl + 20 = nI (tl + 20) from nI_add tl 20]
      refine ok_t (nI_le (b := 900) hr (by decide)) ?_
      refine ok_gd x1 (ok_bd (ok_mono (ok_B_append (a := a) x1 x2 x12 t1 (by omega)) ?_))
      intro _ h2 hx
      obtain ⟨F2, l2, p2, n2⟩ := hx
      have y1 : ∀ {h9 : Hp}, Fr (fun a k => (a = x ∧ k = 1) ∨ a = x + 1) h h9 → hS h9 x = some (.inl 0) ∧ hR h9 x 0 = some (x + 1) ∧ hS h9 (x + 1) = some (.inr (2, 900)) := fun F => ⟨by rw [F.2.1]; exact x1, by rw [(F.2.2.2 x 0 (by omega)).2.2]; exact x2, by rw [F.2.1]; exact x12⟩
      refine ok_gd (y1 F2).1 (ok_bd (ok_mono (ok_B_append (a := b) (y1 F2).1 (y1 F2).2.1 (y1 F2).2.2 l2 (by omega)) ?_))
      intro _ h3 hx
      obtain ⟨F3, l3, p3, n3⟩ := hx
      have F3 := F2.trans F3
      refine ok_gd (y1 F3).1 (ok_bd (ok_mono (ok_B_append (a := d) (y1 F3).1 (y1 F3).2.1 (y1 F3).2.2 l3 (by omega)) ?_))
      intro _ h4 hx
      obtain ⟨F4, l4, p4, n4⟩ := hx
      have F4 := F3.trans F4
      refine ok_gd (y1 F4).1 (ok_bd (ok_mono (ok_B_append (a := e) (y1 F4).1 (y1 F4).2.1 (y1 F4).2.2 l4 (by omega)) ?_))
      intro _ h5 hx
      obtain ⟨F5, l5, p5, n5⟩ := hx
      have F5 := F4.trans F5
      refine ok_gd (y1 F5).1 (ok_bd (ok_mono (ok_B_append (a := f) (y1 F5).1 (y1 F5).2.1 (y1 F5).2.2 l5 (by omega)) ?_))
      intro _ h6 hx
      obtain ⟨F6, l6, p6, n6⟩ := hx
      have F6 := F5.trans F6
      refine ok_gd (y1 F6).1 (ok_lt (ok_ret ⟨l6, F6.mono (fun a k q => by show inB x a; unfold inB; omega), R.frT W.1.1 F6 (fun a k q => q) l6 (fun p hp => ?_), (F6.2.2.2 x 15 (by omega)).1, (F6.2.2.2 (x + 2) 5 (by omega)).1⟩))
      unfold feT seF
      by_cases q0 : p < tl
      · rw [if_pos q0, p6 p (by omega), p5 p (by omega), p4 p (by omega), p3 p (by omega), p2 p (by omega)]
        exact t2 p q0
      · rw [if_neg q0]
        obtain ⟨u, rfl⟩ : ∃ u, p = tl + u := ⟨p - tl, by omega⟩
        rw [show tl + u - tl = u by omega]
        by_cases q1 : u < 4
        · rw [if_pos q1, p6 _ (by omega), p5 _ (by omega), p4 _ (by omega), p3 _ (by omega), n2 u q1, show u % 4 = u by omega]
        · rw [if_neg q1]
          by_cases q2 : u < 8
          · rw [if_pos q2, p6 _ (by omega), p5 _ (by omega), p4 _ (by omega), show tl + u = tl + 4 + (u - 4) by omega, n3 _ (by omega), show u % 4 = u - 4 by omega]
          · rw [if_neg q2]
            by_cases q3 : u < 12
            · rw [if_pos q3, p6 _ (by omega), p5 _ (by omega), show tl + u = tl + 4 + 4 + (u - 8) by omega, n4 _ (by omega), show u % 4 = u - 8 by omega]
            · rw [if_neg q3]
              by_cases q4 : u < 16
              · rw [if_pos q4, p6 _ (by omega), show tl + u = tl + 4 + 4 + 4 + (u - 12) by omega, n5 _ (by omega), show u % 4 = u - 12 by omega]
              · rw [if_neg q4, show tl + u = tl + 4 + 4 + 4 + 4 + (u - 16) by omega, n6 _ (by omega), show u % 4 = u - 16 by omega]
    · obtain ⟨LM, z0, z3, rX, rR, u1, u2, g1⟩ := id M; obtain ⟨a0, ⟨a1, a2, a3, a4, a5, a6, a7, a8, a9, a10, a11, a12, a13⟩, s1, s2, s3, s4, s5, s6, s7, s8, s9, s10, s11, s12, s13⟩ := id LM
      unfold f_m_feed
      refine ok_gd a0 (ok_lt (ok_gd a0 (ok_lt ?_)))
      rw [hI_uIk (by decide), u1, show nI tl + 20 = nI (tl + 20) from nI_add tl 20]
      refine ok_t (nI_le (b := 900) hr (by decide)) (ok_lt ?_)
      refine ok_up 20 (fun i st h2 => st = (m, a, b, d, e, f, nI i) ∧ Fr (fun a k => (a = m ∧ (k = 0 ∨ k = 6)) ∨ a = m + 1) h1 h2 ∧ hI h2 m 6 = nI (tl + i) ∧ ∀ p, p < tl + i → hI h2 (m + 1) p = feT T tl a b d e f p) ?_ FU 0 _ _ (Nat.zero_le _) ⟨rfl, fr_uI (Or.inl ⟨rfl, Or.inl rfl⟩), by rw [hI_uIk (by decide)]; exact u1, fun p hp => by rw [hI_uIa (by omega)]; unfold feT; rw [if_pos (by omega)]; exact u2 p (by omega)⟩ (by show _ < 10000; omega)
      intro k i st h2 hi hI kk
      obtain ⟨rfl, F2, l2, n2⟩ := hI
      have y0 : hS h2 m = some (.inl 11) := by rw [F2.2.1]; exact a0
      have y1 : hR h2 m 5 = some (m + 1) := by rw [(F2.2.2.2 m 5 (by omega)).2.2]; exact a1
      have yt : hS h2 (m + 1) = some (.inr (2, 900)) := by rw [F2.2.1]; exact s1
      show Ok (b_m_feed_23 k m a b d e f (nI i) h2) _
      unfold b_m_feed_23
      refine ok_it (a := 20) hi (by decide) (fun q => ?_) (fun q => ?_)
      · subst q
        refine ok_gd y0 (ok_lt (ok_ret ⟨l2, F2.mono (fun a k q => by show inM m a; unfold inM; omega), M.frT F2 (fun a k q => q) l2 n2, (F2.2.2.2 m 1 (by omega)).1, (F2.2.2.2 m 2 (by omega)).1⟩))
      · have go : ∀ s : Int32, s = seF a b d e f i → Ok (b_m_feed_76 k m a b d e f (nI i) s h2) (fun r' h2 => r' = nI (tl + 20) ∧ Fr (fun a _ => inM m a) h1 h2 ∧ RM h2 m D V K c Im j (feT T tl a b d e f) (tl + 20) fa ∧ hI h2 m 1 = hI h1 m 1 ∧ hI h2 m 2 = hI h1 m 2) := by
          intro s hs
          unfold b_m_feed_76
          refine ok_gd y0 (ok_bR y1 (ok_gd y0 (ok_lt (ok_gd (by decide) ?_))))
          rw [l2]
          refine ok_gd (ai_of yt (by omega) (by decide)) (ok_lt (ok_gd (by exact y0) (ok_lt (ok_gd (by exact y0) (ok_lt ?_)))))
          rw [nI_clamp (by omega), hI_uIa (by omega), l2, nI_1, nI_1, show irm (nI i) 4 = nI (i % 4) from irm_nI (d := 4) (by omega) (by decide) (by decide), sh4 _ (Nat.mod_lt _ (by decide))]
          refine kk _ _ q ⟨rfl, (F2.trans (fr_uI (Or.inr rfl))).trans (fr_uI (Or.inl ⟨rfl, Or.inr rfl⟩)), hI_uIs, fun p hp => ?_⟩
          rw [hI_uIa (by omega)]
          by_cases z : p = tl + i
          · rw [z, hI_uIs]
            unfold feT
            rw [if_neg (by omega), show tl + i - tl = i by omega, ← hs]
            rfl
          · rw [hI_uIk z]
            exact n2 p (by omega)
        refine ok_ile (a := 4) (by decide) (by omega) (fun q1 => ok_ile (a := 8) (by decide) (by omega) (fun q2 => ok_ile (a := 12) (by decide) (by omega) (fun q3 => ok_ile (a := 16) (by decide) (by omega) (fun q4 => go _ ?_) (fun q4 => go _ ?_)) (fun q3 => go _ ?_)) (fun q2 => go _ ?_)) (fun q1 => go _ ?_)
        · unfold seF
          rw [if_neg (by omega), if_neg (by omega), if_neg (by omega), if_neg (by omega)]
        · unfold seF
          rw [if_neg (by omega), if_neg (by omega), if_neg (by omega), if_pos (by omega)]
        · unfold seF
          rw [if_neg (by omega), if_neg (by omega), if_pos (by omega)]
        · unfold seF
          rw [if_neg (by omega), if_pos (by omega)]
        · unfold seF
          rw [if_pos (by omega)]
  · refine ⟨-1, T, tl, hbt, W.up hnc, ?_, fun h1 M => ?_⟩
    · unfold f_B_feed
      refine ok_gd x1 (ok_lt ?_)
      rw [t1, show nI tl + 20 = nI (tl + 20) from nI_add tl 20]
      exact ok_f (fun q => hr ((nI_leI (b := 900) (by omega) (by decide)).mp q)) (ok_ret ⟨rfl, Fr.rf, R, rfl, rfl⟩)
    · obtain ⟨LM, z0, z3, rX, rR, u1, u2, g1⟩ := id M; obtain ⟨a0, ⟨a1, a2, a3, a4, a5, a6, a7, a8, a9, a10, a11, a12, a13⟩, s1, s2, s3, s4, s5, s6, s7, s8, s9, s10, s11, s12, s13⟩ := id LM
      unfold f_m_feed
      refine ok_gd a0 (ok_lt (ok_gd a0 (ok_lt ?_)))
      rw [hI_uIk (by decide), u1, show nI tl + 20 = nI (tl + 20) from nI_add tl 20]
      have F2 : Fr (fun a k => (a = m ∧ (k = 0 ∨ k = 6)) ∨ a = m + 1) h1 (uI h1 m 0 0) := fr_uI (Or.inl ⟨rfl, Or.inl rfl⟩)
      exact ok_f (fun q => hr ((nI_leI (b := 900) (by omega) (by decide)).mp q)) (ok_ret ⟨rfl, F2.mono (fun a k q => by show inM m a; unfold inM; omega), M.frT F2 (fun a k q => q) (by rw [hI_uIk (by decide)]; exact u1) (fun p hp => by rw [hI_uIa (by omega)]; exact u2 p hp), (F2.2.2.2 m 1 (by omega)).1, (F2.2.2.2 m 2 (by omega)).1⟩)
end FE
