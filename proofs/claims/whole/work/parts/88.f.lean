/-! value, moves: both sides -/
section P8
variable {h h1 : Hp} {x m c j tl nc : Nat} {D : DD} {V : Nat → Nat} {K Im : Nat → Nat → Nat} {T : Nat → Int32} {fa : Int32}
theorem xI_p {a : Nat} (h : 0 < a) : xI a = nI (a - 1) := if_neg (by omega)
theorem gB (W : Wst D V K c Im j tl nc) (R : RB h x D V K c Im j T tl fa) {f n : Nat} (hf : f < dF D) (hn : n ≤ 6) : Ok (f_G_play (x + 76) (if hR h x 3 = some (x + 6) then x + 6 else x + 21) (x + 36) (nI f) (nI n) h) (fun r h' => r = xI (gw D f n false V) ∧ Fr (ScB x) h h' ∧ (∀ n', n = n' + 1 → hI h' (x + 76) 3 = nI (gmv false (subG D f (gw D f n' true) V) 3))) := by
  obtain ⟨o, o', ho, LB, r3, r4, rO, rD, rV, rP, t1, t2, f1, sUs⟩ := id R; obtain ⟨⟨x1, x2, x3, x4, x5, x6, x7, x8, x9, x10, x11, x12, x13⟩, LR, LC, LK, LS, LG, LH⟩ := id LB
  have e0 : (if hR h x 3 = some (x + 6) then x + 6 else x + 21) = o := by
    rcases ho with ⟨q, -⟩ | ⟨q, -⟩
    · rw [if_pos (by rw [r3, q]), q]
    · rw [if_neg (by rw [r3, q]; exact fun e => by have := Option.some.inj e; omega), q]
  rw [e0]
  obtain ⟨l1, l2, l3, l4⟩ := id LG
  have W1 := W.1.1
  have F3 : Fr (ScB x) h (uI (uI (uR h (x + 76) 1 (some o)) (x + 76) 2 (nI f)) (x + 76) 3 0) := ((fr_uR (by unfold ScB; omega)).trans (fr_uI (by unfold ScB; omega))).trans (fr_uI (by unfold ScB; omega))
  have L3 : LayG (uI (uI (uR h (x + 76) 1 (some o)) (x + 76) 2 (nI f)) (x + 76) 3 0) (x + 76) := (LB.fr F3 (fun a k e => Or.inl e)).2.2.2.2.2.1
  have g1 : hR (uI (uI (uR h (x + 76) 1 (some o)) (x + 76) 2 (nI f)) (x + 76) 3 0) (x + 76) 1 = some o := if_pos ⟨rfl, rfl⟩
  have g2 : hI (uI (uI (uR h (x + 76) 1 (some o)) (x + 76) 2 (nI f)) (x + 76) 3 0) (x + 76) 2 = nI f := by rw [hI_uIk (by decide), hI_uIs]
  have g3 : hI (uI (uI (uR h (x + 76) 1 (some o)) (x + 76) 2 (nI f)) (x + 76) 3 0) (x + 76) 3 = 0 := hI_uIs
  unfold f_G_play
  refine ok_gd l1 (ok_lt (ok_gd l1 (ok_lt (ok_gd l1 (ok_lt ?_)))))
  generalize uI (uI (uR h (x + 76) 1 (some o)) (x + 76) 2 (nI f)) (x + 76) 3 0 = h3 at F3 L3 g1 g2 g3
  obtain ⟨m1, m2, m3, m4⟩ := id L3
  have v3 : RepV h3 (x + 36) V := rV.fr F3 (fun k => by unfold ScB sC; omega)
  refine ok_gd m1 (ok_bR m2 (ok_gd (ai_lit m3 (by decide) (by decide) (by decide)) ?_))
  rw [cl0]
  refine ok_bR (m4 0 (by decide)).1 (ok_gd (cpok_8 v3.1 (m4 0 (by decide)).2) (ok_lt ?_))
  have v4 : RepV (uC h3 (x + 36) (x + 76 + 2 + 0) 0 0 (8 : Int32).toNatClampNeg) (x + 76 + 2 + 0) V := v3.cpy (m4 0 (by decide)).2
  have F4 : Fr (fun a _ => a = x + 76 + 2 + 0) h3 (uC h3 (x + 36) (x + 76 + 2 + 0) 0 0 (8 : Int32).toNatClampNeg) := (fk_uC (fun k => rfl)).r
  generalize uC h3 (x + 36) (x + 76 + 2 + 0) 0 0 (8 : Int32).toNatClampNeg = h4 at v4 F4
  have L4 : LayG h4 (x + 76) := L3.fr F4 (by omega) (fun k => by omega)
  have F5 : Fr (ScB x) h h4 := F3.trans (F4.mono (fun a k e => by unfold ScB; omega))
  refine ok_gd L4.1 (ok_bd (ok_mono (ok_G_worth (o := o) (g := x + 76) W1 hf (by omega) n 8 0 h4 V V (by omega) (by omega) L4 (by rw [(F4.2.2.2 _ _ (by omega)).2.2]; exact g1) (by rw [(F4.2.2.2 _ _ (by omega)).1]; exact g2) (fun _ => by rw [(F4.2.2.2 _ _ (by omega)).1]; exact g3) (rO.fr F5 (fun i k hi => by unfold ScB sC; omega) W1.1) v4 (W.2.1.n W.2.2.2.2.2.1 (by omega)) EqV.rf) ?_))
  intro r h5 hx
  obtain ⟨rfl, F6, -, j2⟩ := hx
  exact ok_ret ⟨rfl, F5.trans (F6.mono (fun a k e => by unfold sG at e; unfold ScB; omega)), j2 rfl⟩
theorem gM (W : Wst D V K c Im j tl nc) (M : RM h m D V K c Im j T tl fa) {f n : Nat} (hf : f < dF D) (hn : n ≤ 6) : Ok (f_m_argues m (nI f) (nI n) h) (fun _ h' => Fr (ScM m) h h' ∧ LayM h' m ∧ (0 < n → ∀ p, p < 3 → hI h' (m + 12) p = xI (lv D f V n 1 p))) := by
  obtain ⟨q, X, hq⟩ := M.dx W (W.fw hf)
  refine ok_mono (ok_m_argues X hn hf) ?_
  intro _ h' hx
  exact ⟨hx.1.r.mono (fun a k e => by unfold sA sX at e; unfold ScM; omega), X.1.fk hx.1, hx.2⟩
theorem q_value (W : Wst D V K c Im j tl nc) (R : RB h x D V K c Im j T tl fa) (f n : Int32) : Pair x h m (fun h1 => RM h1 m D V K c Im j T tl fa) (f_B_value x f n h) (f_m_value m f n) := by
  obtain ⟨o, o', ho, LB, r3, r4, rO, rD, rV, rP, t1, t2, f1, sUs⟩ := id R; obtain ⟨⟨x1, x2, x3, x4, x5, x6, x7, x8, x9, x10, x11, x12, x13⟩, LR, LC, LK, LS, LG, LH⟩ := id LB
  have w2 := W.1.1.2.1
  have hz := fun e => (W.2.2.2.2.2.2 e).1
  have e0 : (if hR h x 3 = some (x + 6) then x + 6 else x + 21) = o := by
    rcases ho with ⟨q, -⟩ | ⟨q, -⟩
    · rw [if_pos (by rw [r3, q]), q]
    · rw [if_neg (by rw [r3, q]; exact fun e => by have := Option.some.inj e; omega), q]
  cases hb : isN (dF D) f with
  | false =>
    refine ⟨-1, 1, by decide, ?_, fun h1 M => qM_st M (fun h0 M F _ => ?_)⟩
    · unfold f_B_value
      refine ok_gd x1 (ok_bde (e_B_hasFeast x1 r3 rO f) ?_)
      rw [hb]
      exact ok_t rfl (qB_ref Fr.rf x1)
    · refine ok_gd M.1.1 (ok_bde (e_m_isFeast M hz f) ?_)
      rw [hb]
      exact qM_dn F M.1.1
  | true =>
    obtain ⟨i, hi, rfl⟩ := isN_ex (by omega) hb
    rcases dy_cases n (lo := 0) (hi := 6) (by decide) (by decide) with ho2 | ⟨d, hd0, hd, rfl⟩
    · refine ⟨-1, 2, by decide, ?_, fun h1 M => qM_st M (fun h0 M F _ => ?_)⟩
      · unfold f_B_value b_B_value_24
        refine ok_gd x1 (ok_bde (e_B_hasFeast x1 r3 rO _) ?_)
        rw [hb]
        exact ok_f (by decide) (dyB_out ho2 (qB_ref Fr.rf x1))
      · refine ok_gd M.1.1 (ok_bde (e_m_isFeast M hz _) ?_)
        rw [hb]
        exact qM_do F M.1.1 ho2
    · refine ⟨xI (gw D i d false V), 0, by decide, ?_, fun h1 M => qM_st M (fun h0 M F _ => ?_)⟩
      · unfold f_B_value
        refine ok_gd x1 (ok_bde (e_B_hasFeast x1 r3 rO _) ?_)
        rw [hb]
        refine ok_f (by decide) (dyB_in (lo := 0) (hi := 6) hd0 hd (by decide) (ok_gd x1 (ok_bR x10 (ok_gd x1 (ok_bR r3 (ok_gd x1 (ok_bR x4 (ok_gd LG.1 (ok_bd ?_)))))))))
        have q := gB W R hi hd
        rw [e0] at q
        refine ok_mono q ?_
        intro r h2 hx
        obtain ⟨rfl, F2, -⟩ := hx
        exact qB_gr F2 (by rw [F2.2.1]; exact x1)
      · refine ok_gd M.1.1 (ok_bde (e_m_isFeast M hz _) ?_)
        rw [hb]
        refine qM_di (a := 0) (b := 6) M.1.1 hd0 hd (by decide) ?_
        refine ok_gd M.1.1 (ok_bd (ok_mono (gM W M hi hd) ?_))
        intro _ h2 hx
        obtain ⟨F2, L2, l2⟩ := hx
        unfold b_m_value_50
        refine ok_ieq (b := 0) (by omega) (by decide) (fun e => ?_) (fun e => ?_)
        · subst e
          exact qM_gr (F.trans F2) L2.1
        · refine ok_gd L2.1 (ok_bd (ok_mono (ok_m_bestOf (b := 0) (c := false) (s := fun p => lv D i V d 1 p) L2 (by decide) (fun p hp => by rw [Nat.zero_add]; exact l2 (by omega) p hp) (fun p hp => by have := lv_le (D := D) (f := i) (U := V) (n := d) (k := 1) (a := p) (by omega); omega)) ?_))
          intro r h3 hx
          obtain ⟨rfl, rfl⟩ := hx
          have e5 : bk3 false (fun p => lv D i V d 1 p) 3 = gw D i d false V := by
            rw [← lv_0 (D := D) (f := i) (n := d) (U := V) 0, lv_s (by omega)]
            exact bk3_cg 3 (fun p hp => by show lv D i V d 1 p = lv D i V d (0 + 1) (3 * 0 + p); rw [show 3 * 0 + p = p by omega])
          rw [e5]
          exact qM_gr (F.trans F2) L2.1
theorem q_moves (W : Wst D V K c Im j tl nc) (R : RB h x D V K c Im j T tl fa) (f n : Int32) : Pair x h m (fun h1 => RM h1 m D V K c Im j T tl fa) (f_B_moves x f n h) (f_m_moves m f n) := by
  obtain ⟨o, o', ho, LB, r3, r4, rO, rD, rV, rP, t1, t2, f1, sUs⟩ := id R; obtain ⟨⟨x1, x2, x3, x4, x5, x6, x7, x8, x9, x10, x11, x12, x13⟩, LR, LC, LK, LS, LG, LH⟩ := id LB
  have w2 := W.1.1.2.1
  have hz := fun e => (W.2.2.2.2.2.2 e).1
  have e0 : (if hR h x 3 = some (x + 6) then x + 6 else x + 21) = o := by
    rcases ho with ⟨q, -⟩ | ⟨q, -⟩
    · rw [if_pos (by rw [r3, q]), q]
    · rw [if_neg (by rw [r3, q]; exact fun e => by have := Option.some.inj e; omega), q]
  cases hb : isN (dF D) f with
  | false =>
    refine ⟨-1, 1, by decide, ?_, fun h1 M => qM_st M (fun h0 M F _ => ?_)⟩
    · unfold f_B_moves
      refine ok_gd x1 (ok_bde (e_B_hasFeast x1 r3 rO f) ?_)
      rw [hb]
      exact ok_t rfl (qB_ref Fr.rf x1)
    · refine ok_gd M.1.1 (ok_bde (e_m_isFeast M hz f) ?_)
      rw [hb]
      exact qM_dn F M.1.1
  | true =>
    obtain ⟨i, hi, rfl⟩ := isN_ex (by omega) hb
    rcases dy_cases n (lo := 1) (hi := 6) (by decide) (by decide) with ho2 | ⟨d, hd0, hd, rfl⟩
    · refine ⟨-1, 2, by decide, ?_, fun h1 M => qM_st M (fun h0 M F _ => ?_)⟩
      · unfold f_B_moves b_B_moves_25
        refine ok_gd x1 (ok_bde (e_B_hasFeast x1 r3 rO _) ?_)
        rw [hb]
        exact ok_f (by decide) (dyB_out ho2 (qB_ref Fr.rf x1))
      · refine ok_gd M.1.1 (ok_bde (e_m_isFeast M hz _) ?_)
        rw [hb]
        exact qM_do F M.1.1 ho2
    · refine ⟨nI (gmv false (subG D i (gw D i (d - 1) true) V) 3), 0, by decide, ?_, fun h1 M => qM_st M (fun h0 M F _ => ?_)⟩
      · unfold f_B_moves
        refine ok_gd x1 (ok_bde (e_B_hasFeast x1 r3 rO _) ?_)
        rw [hb]
        refine ok_f (by decide) (dyB_in (lo := 1) (hi := 6) hd0 hd (by decide) (ok_gd x1 (ok_bR x10 (ok_gd x1 (ok_bR r3 (ok_gd x1 (ok_bR x4 (ok_gd LG.1 (ok_bd ?_)))))))))
        have q := gB W R hi hd
        rw [e0] at q
        refine ok_mono q ?_
        intro r h2 hx
        obtain ⟨rfl, F2, g2⟩ := hx
        have y1 : hS h2 x = some (.inl 0) := by rw [F2.2.1]; exact x1
        refine ok_gd y1 (ok_bR (by rw [(F2.2.2.2 x 12 (by unfold ScB sC; omega)).2.2]; exact x10) (ok_gd (by rw [F2.2.1]; exact LG.1) (ok_lt ?_)))
        rw [g2 (d - 1) (by omega)]
        exact qB_gr F2 y1
      · refine ok_gd M.1.1 (ok_bde (e_m_isFeast M hz _) ?_)
        rw [hb]
        refine qM_di (a := 1) (b := 6) M.1.1 hd0 hd (by decide) ?_
        refine ok_gd M.1.1 (ok_bd (ok_mono (gM W M hi hd) ?_))
        intro _ h2 hx
        obtain ⟨F2, L2, l2⟩ := hx
        have l2 : ∀ p, p < 3 → hI h2 (m + 12) p = xI (subG D i (gw D i (d - 1) true) V p) := fun p hp => by rw [← lv_1 hp (by omega)]; exact l2 (by omega) p hp
        have hsb : ∀ p, subG D i (gw D i (d - 1) true) V p ≤ d - 1 + 2 := fun p => sub_b (c := false) p
        have hs0 : 0 < subG D i (gw D i (d - 1) true) V 0 := sub_p (c := false) (by omega)
        generalize subG D i (gw D i (d - 1) true) V = s at l2 hsb hs0
        refine ok_gd L2.1 (ok_bd (ok_mono (ok_m_bestOf (b := 0) (c := false) (s := s) L2 (by decide) (fun p hp => by rw [Nat.zero_add]; exact l2 p hp) (fun p hp => by have := hsb p; omega)) ?_))
        intro r h3 hx
        obtain ⟨rfl, rfl⟩ := hx
        refine ok_lt ?_
        have k0 := gmv_at (c := false) hs0 2
        rw [show 2 + 1 = 3 from rfl] at k0
        obtain ⟨k1, k2, k3, -⟩ := k0
        have hbl := bk3_le (c := false) hsb 3
        have hbp : 0 < bk3 false s 3 := bk3_pos (c := false) hs0 2
        have r32 := L2.2.1.2.2.2.2.2.2.2.2.2.2.2.1
        have s12 := L2.2.2.2.2.2.2.2.2.2.2.2.2.2.1
        refine ok_up (gmv false s 3) (fun p st h' => st = (m, xI (bk3 false s 3), nI p) ∧ h' = h3) ?_ FU 0 _ _ (Nat.zero_le _) ⟨rfl, rfl⟩ (by show _ < 10000; omega)
        intro k p st h' hp hI kk
        obtain ⟨rfl, rfl⟩ := hI
        show Ok (b_m_moves_46 k m (xI (bk3 false s 3)) (nI p) h') _
        unfold b_m_moves_46
        refine ok_gd L2.1 (ok_bR r32 (ok_gd (ai_of s12 (by omega) (by decide)) (ok_lt ?_)))
        rw [nI_clamp (by omega), l2 p (by omega)]
        rcases Nat.lt_or_ge p (gmv false s 3) with e | e
        · refine ok_f (fun e2 => ?_) (kk _ _ e ⟨by rw [nI_1], rfl⟩)
          rw [xI_p hbp] at e2
          have := xI_inj (by have := hsb p; omega) (by omega) e2
          exact k3 p e (by omega)
        · have : p = gmv false s 3 := by omega
          subst this
          exact ok_t (by rw [k2]) (qM_gr (F.trans F2) L2.1)
end P8
