/-! the game at the class -/
section GB
variable {h : Hp} {g o f : Nat} {D : DD}
theorem xI_inj {a p : Nat} (ha : a < 2 ^ 31) (hp : p < 2 ^ 31) (e : xI a = nI p) : a = p + 1 := by
  cases a with
  | zero => exact absurd e.symm (nI_nm1 hp)
  | succ a =>
    have := (nI_eq (by omega) hp).mp (show nI a = nI p from e)
    omega
theorem xI_add {a b : Nat} (ha : 0 < a) : xI a + nI b = xI (a + b) := by
  obtain ⟨a, rfl⟩ : ∃ k, a = k + 1 := ⟨a - 1, by omega⟩
  rw [show a + 1 + b = a + b + 1 by omega, xI_s, xI_s]
  exact nI_add a b
theorem LayG.fr {S : Nat → Nat → Prop} {h' : Hp} (L : LayG h g) (F : Fr S h h') (n0 : ¬ S g 0) (n1 : ∀ k, ¬ S (g + 1) k) : LayG h' g := by
  obtain ⟨l1, l2, l3, l4⟩ := L
  unfold LayG
  rw [F.2.1, (F.2.2.2 _ _ n0).2.2]
  refine ⟨l1, l2, l3, fun i hi => ⟨?_, (l4 i hi).2⟩⟩
  rw [(F.2.2.2 _ _ (n1 i)).2.2]
  exact (l4 i hi).1
theorem ok_G_move {V : Nat → Nat} {n k l : Nat} (W : Wf D) (L : LayG h g) (h1 : hR h g 1 = some o) (rO : RepO h o D) (ho : o + 15 ≤ g) (hl : l < 6) (hk : k < 3) (v : RepV h (g + 2 + l) V) (hv : WfN D V (n + 1)) : Ok (f_G_makeMove g (nI k) (nI l) h) (fun r h' => r = bI (!decide (k = 2 ∧ V 0 = 0)) ∧ Fr (fun a _ => a = g + 2 + (l + 1)) h h' ∧ (¬ (k = 2 ∧ V 0 = 0) → ∃ V', RepV h' (g + 2 + (l + 1)) V' ∧ EqV V' (mvU D k V) ∧ WfN D V' n)) := by
  obtain ⟨l1, l2, l3, l4⟩ := id L
  have m0 := (l4 l (by omega)).1
  have m1 := (l4 (l + 1) (by omega)).1
  have m2 := (l4 (l + 1) (by omega)).2
  have hv0 := hv.1
  unfold f_G_makeMove
  rw [nI_1]
  refine ok_gd l1 (ok_bR l2 (ok_gd (ai_of l3 (by omega) (by decide)) ?_))
  rw [nI_clamp (by omega)]
  refine ok_bR m1 (ok_gd l1 (ok_bR l2 (ok_gd (ai_of l3 (by omega) (by decide)) ?_)))
  rw [nI_clamp (by omega)]
  refine ok_bR m0 (ok_gd (cpok_8 v.1 m2) (ok_lt ?_))
  show Ok (if nI k = 0 then _ else _) _
  have v2 : RepV (uC h (g + 2 + l) (g + 2 + (l + 1)) (0 : Int32).toNatClampNeg (0 : Int32).toNatClampNeg (8 : Int32).toNatClampNeg) (g + 2 + (l + 1)) V := v.cpy m2
  have F2 : Fr (fun a _ => a = g + 2 + (l + 1)) h (uC h (g + 2 + l) (g + 2 + (l + 1)) (0 : Int32).toNatClampNeg (0 : Int32).toNatClampNeg (8 : Int32).toNatClampNeg) := (fk_uC (fun k => rfl)).r
  generalize uC h (g + 2 + l) (g + 2 + (l + 1)) (0 : Int32).toNatClampNeg (0 : Int32).toNatClampNeg (8 : Int32).toNatClampNeg = h5 at v2 F2
  have q1 : hS h5 g = some (.inl 9) := by rw [F2.2.1]; exact l1
  have q2 : hR h5 g 1 = some o := by rw [(F2.2.2.2 g 1 (by omega)).2.2]; exact h1
  have rO2 : RepO h5 o D := rO.fr F2 (fun i k hi => by omega) W.1
  refine ok_ieq (b := 0) (by omega) (by decide) (fun e => ?_) (fun e => ?_)
  · subst e
    refine ok_gd q1 (ok_bR q2 (ok_gd rO2.1.1 (ok_bd (ok_mono (ok_O_goTurn W rO2 v2 hv.wf (fun i hi => by omega)) ?_))))
    intro _ h6 hx
    obtain ⟨-, F6, v6⟩ := hx
    exact ok_gd zb1 (ok_ret ⟨rfl, F2.trans F6.r, fun _ => ⟨_, v6, EqV.tn EqV.rf, hv.tnV_ W⟩⟩)
  · refine ok_ieq (b := 2) (by omega) (by decide) (fun e2 => ?_) (fun e2 => ?_)
    · subst e2
      refine ok_gd (ai_lit v2.1 (by decide) (by decide) (by decide)) (ok_lt ?_)
      rw [cl0, v2.2 0 (by decide)]
      refine ok_ilt (a := 0) (by decide) (by omega) (fun e3 => ?_) (fun e3 => ?_)
      · refine ok_gd q1 (ok_bR q2 (ok_gd rO2.1.1 (ok_bd (ok_mono (ok_O_goTurnBack W rO2 v2 hv.wf (fun i hi => by omega) e3) ?_))))
        intro _ h6 hx
        obtain ⟨-, F6, v6⟩ := hx
        refine ok_gd zb1 (ok_ret ⟨?_, F2.trans F6.r, fun _ => ⟨_, v6, EqV.bk EqV.rf, hv.bkV_ W⟩⟩)
        rw [decide_eq_false (by omega)]
        rfl
      · refine ok_gd zb0 (ok_ret ⟨?_, F2, fun e4 => by omega⟩)
        rw [decide_eq_true (by omega)]
        rfl
    · have : k = 1 := by omega
      subst this
      exact ok_gd zb1 (ok_ret ⟨rfl, F2, fun _ => ⟨_, v2, EqV.rf, hv.dn (by omega)⟩⟩)
def sG (g l a k : Nat) : Prop := (a = g ∧ k = 3) ∨ (g + 2 + l < a ∧ a ≤ g + 8)
theorem and1 : ∀ l, l < 6 → ((nI l &&& 1) = 1 ↔ l % 2 = 1) := by decide
theorem ok_G_worth (W : Wf D) (hf : f < dF D) (ho : o + 15 ≤ g) : ∀ (n N l : Nat) (h : Hp) (V U : Nat → Nat), n + 1 ≤ N → l + n ≤ 6 → LayG h g → hR h g 1 = some o → hI h g 2 = nI f → (l = 0 → hI h g 3 = 0) → RepO h o D → RepV h (g + 2 + l) V → WfN D V n → EqV V U → Ok (f_G_worth_n N g (nI n) (nI l) h) (fun r h' => r = xI (gw D f n (decide (l % 2 = 1)) U) ∧ Fr (sG g l) h h' ∧ (0 < l → hI h' g 3 = hI h g 3) ∧ (l = 0 → ∀ n', n = n' + 1 → hI h' g 3 = nI (gmv false (subG D f (gw D f n' true) U) 3))) := by
  intro n
  induction n with
  | zero =>
    intro N l h V U hN hl L h1 h2 h3 rO v hv e
    obtain ⟨N, rfl⟩ : ∃ k, N = k + 1 := ⟨N - 1, by omega⟩
    show Ok (g_G_worth (f_G_worth_n N) g (nI 0) (nI l) h) _
    unfold g_G_worth
    refine ok_t (by decide) (ok_ret ⟨rfl, Fr.rf, fun _ => rfl, fun _ n' e' => by omega⟩)
  | succ n ih =>
    intro N l h V U hN hl L h1 h2 h3 rO v hv e
    obtain ⟨N, rfl⟩ : ∃ k, N = k + 1 := ⟨N - 1, by omega⟩
    obtain ⟨c, hc⟩ : ∃ c, c = decide (l % 2 = 1) := ⟨_, rfl⟩
    rw [← hc]
    have hcn : (!c) = decide ((l + 1) % 2 = 1) := by
      rw [hc]
      by_cases q : l % 2 = 1
      · rw [decide_eq_true q, decide_eq_false (by omega)]
        rfl
      · rw [decide_eq_false q, decide_eq_true (by omega)]
        rfl
    obtain ⟨s, hs⟩ : ∃ s, s = subG D f (gw D f n (!c)) U := ⟨_, rfl⟩
    have hb : ∀ i, s i ≤ n + 2 := fun i => by rw [hs]; exact sub_b i
    have hgw : gw D f (n + 1) c U = bk3 c s 3 := by rw [hs]; rfl
    rw [hgw]
    have e0 : V 0 = U 0 := e 0 (by decide)
    have main : Ok (l_G_worth_42 (f_G_worth_n N) FU (g, nI (n + 1), nI l, bI c, nI (if c = true then n + 1 else 0), -1, 0) h) (fun r h' => r = xI (bk3 c s 3) ∧ Fr (sG g l) h h' ∧ (0 < l → hI h' g 3 = hI h g 3) ∧ (l = 0 → ∀ n', n + 1 = n' + 1 → hI h' g 3 = nI (gmv false (subG D f (gw D f n' true) U) 3))) := by
      refine ok_up 3 (fun i st h' => st = (g, nI (n + 1), nI l, bI c, nI (if c = true then n + 1 else 0), xI (bk3 c s i), nI i) ∧ Fr (sG g l) h h' ∧ (0 < l → hI h' g 3 = hI h g 3) ∧ (l = 0 → hI h' g 3 = nI (gmv c s i))) ?_ FU 0 _ _ (Nat.zero_le _) ⟨rfl, Fr.rf, fun _ => rfl, h3⟩ (by show _ < 10000; omega)
      intro k i st h' hi hI kk
      obtain ⟨rfl, F3, j1, j2⟩ := hI
      have hfin : ∀ h', l = 0 → hI h' g 3 = nI (gmv c s 3) → ∀ n', n + 1 = n' + 1 → hI h' g 3 = nI (gmv false (subG D f (gw D f n' true) U) 3) := by
        intro h' hl0 q n' hn'
        have : n = n' := by omega
        subst this
        subst hl0
        have : c = false := by rw [hc]; rfl
        subst this
        rw [q, hs]
        rfl
      have hbk := bk3_le (c := c) hb i
      show Ok (b_G_worth_42 (f_G_worth_n N) k g (nI (n + 1)) (nI l) (bI c) (nI (if c = true then n + 1 else 0)) (xI (bk3 c s i)) (nI i) h') _
      unfold b_G_worth_42
      refine ok_it (a := 3) hi (by decide) (fun q => ?_) (fun q => ?_)
      · subst q
        exact ok_ret ⟨rfl, F3, j1, fun q => hfin _ q (j2 q)⟩
      · by_cases cut : xI (bk3 c s i) = nI (if c = true then n + 1 else 0)
        · refine ok_t cut (ok_ret ?_)
          have hp : bk3 c s i = if c = true then n + 2 else 1 := by
            have := xI_inj (by omega) (by split <;> omega) cut
            rw [this]
            split <;> rfl
          have ct := bk3_cut (k := 3 - i) hb i hp
          rw [show i + (3 - i) = 3 by omega] at ct
          rw [ct.1]
          exact ⟨rfl, F3, j1, fun q => hfin _ q (by rw [ct.2]; exact j2 q)⟩
        · refine ok_f cut ?_
          have L3 : LayG h' g := L.fr F3 (by unfold sG; omega) (fun k => by unfold sG; omega)
          have h13 : hR h' g 1 = some o := by rw [(F3.2.2.2 g 1 (by unfold sG; omega)).2.2]; exact h1
          have h23 : hI h' g 2 = nI f := by rw [(F3.2.2.2 g 2 (by unfold sG; omega)).1]; exact h2
          have rO3 : RepO h' o D := rO.fr F3 (fun i k hi => by unfold sG; omega) W.1
          have v3 : RepV h' (g + 2 + l) V := v.fr F3 (fun k => by unfold sG; omega)
          refine ok_gd L3.1 (ok_bd (ok_mono (ok_G_move W L3 h13 rO3 ho (by omega) q v3 hv) ?_))
          intro r h4 hx
          obtain ⟨rfl, F4, hV4⟩ := hx
          have F5 : Fr (sG g l) h h4 := F3.trans (F4.mono (fun a k e => by unfold sG; omega))
          have i4 : hI h4 g 3 = hI h' g 3 := (F4.2.2.2 g 3 (by omega)).1
          have skip : ∀ h6, Fr (sG g l) h h6 → hI h6 g 3 = hI h' g 3 → ¬ bet c (bk3 c s i) (s i) → Ok (b_G_worth_153 (f_G_worth_n N) k g (nI (n + 1)) (nI l) (bI c) (nI (if c = true then n + 1 else 0)) (xI (bk3 c s i)) (nI i) h6) (fun r h' => r = xI (bk3 c s 3) ∧ Fr (sG g l) h h' ∧ (0 < l → hI h' g 3 = hI h g 3) ∧ (l = 0 → ∀ n', n + 1 = n' + 1 → hI h' g 3 = nI (gmv false (subG D f (gw D f n' true) U) 3))) := by
            intro h6 F6 i6 nb
            unfold b_G_worth_153
            refine kk _ _ q ⟨?_, F6, fun ql => by rw [i6]; exact j1 ql, fun ql => ?_⟩
            · rw [nI_1]
              show _ = (g, nI (n + 1), nI l, bI c, nI (if c = true then n + 1 else 0), xI (bst c (bk3 c s i) (s i)), nI (i + 1))
              rw [bst_e, if_neg nb]
            · show _ = nI (if bet c (bk3 c s i) (s i) then i else gmv c s i)
              rw [if_neg nb, i6]
              exact j2 ql
          have take : ∀ h6, Fr (sG g l) h h6 → hS h6 g = some (.inl 9) → hI h6 g 3 = hI h' g 3 → bet c (bk3 c s i) (s i) → Ok (b_G_worth_132 (f_G_worth_n N) k g (nI (n + 1)) (nI l) (bI c) (nI (if c = true then n + 1 else 0)) (nI i) (xI (s i)) h6) (fun r h' => r = xI (bk3 c s 3) ∧ Fr (sG g l) h h' ∧ (0 < l → hI h' g 3 = hI h g 3) ∧ (l = 0 → ∀ n', n + 1 = n' + 1 → hI h' g 3 = nI (gmv false (subG D f (gw D f n' true) U) 3))) := by
            intro h6 F6 s6 i6 nb
            have go : ∀ v : Int32, (0 < l → v = hI h g 3) → (l = 0 → v = nI i) → Ok (b_G_worth_150 (f_G_worth_n N) k g (nI (n + 1)) (nI l) (bI c) (nI (if c = true then n + 1 else 0)) (xI (s i)) (nI i) v g h6) (fun r h' => r = xI (bk3 c s 3) ∧ Fr (sG g l) h h' ∧ (0 < l → hI h' g 3 = hI h g 3) ∧ (l = 0 → ∀ n', n + 1 = n' + 1 → hI h' g 3 = nI (gmv false (subG D f (gw D f n' true) U) 3))) := by
              intro v v1 v2
              unfold b_G_worth_150 b_G_worth_153
              refine ok_gd s6 (ok_lt (kk _ _ q ⟨?_, F6.trans (fr_uI (Or.inl ⟨rfl, rfl⟩)), fun ql => by rw [hI_uIs]; exact v1 ql, fun ql => ?_⟩))
              · rw [nI_1]
                show _ = (g, nI (n + 1), nI l, bI c, nI (if c = true then n + 1 else 0), xI (bst c (bk3 c s i) (s i)), nI (i + 1))
                rw [bst_e, if_pos nb]
              · show _ = nI (if bet c (bk3 c s i) (s i) then i else gmv c s i)
                rw [if_pos nb, hI_uIs]
                exact v2 ql
            unfold b_G_worth_132
            refine ok_ieq (b := 0) (by omega) (by decide) (fun ql => go _ (fun _ => by omega) (fun _ => rfl)) (fun ql => ok_gd s6 (ok_lt (go _ (fun q2 => ?_) (fun _ => by omega))))
            rw [i6]
            exact j1 q2
          refine ok_ib (fun q2 => ?_) (fun q2 => ?_)
          · have q3 : i = 2 ∧ V 0 = 0 := by
              have : decide (i = 2 ∧ V 0 = 0) = true := by
                cases q4 : decide (i = 2 ∧ V 0 = 0) with
                | true => rfl
                | false => rw [q4] at q2; cases q2
              exact of_decide_eq_true this
            refine skip h4 F5 i4 (fun q4 => q4.1 ?_)
            rw [hs]
            exact if_pos ⟨q3.1, by rw [← e0]; exact q3.2⟩
          · have q3 : ¬ (i = 2 ∧ V 0 = 0) := by
              intro q4
              rw [decide_eq_true q4] at q2
              cases q2
            obtain ⟨V', v4, ev, wv⟩ := hV4 q3
            have L4 : LayG h4 g := L3.fr F4 (by omega) (fun k => by omega)
            have h14 : hR h4 g 1 = some o := by rw [(F4.2.2.2 g 1 (by omega)).2.2]; exact h13
            have h24 : hI h4 g 2 = nI f := by rw [(F4.2.2.2 g 2 (by omega)).1]; exact h23
            have rO4 : RepO h4 o D := rO3.fr F4 (fun i k hi => by omega) W.1
            have eU : EqV V' (mvU D i U) := ev.trans (mvU_eq e i)
            rw [nI_s (by omega), nI_1]
            refine ok_gd L4.1 (ok_bd (ok_mono (ih N (l + 1) h4 V' (mvU D i U) (by omega) (by omega) L4 h14 h24 (fun q => by omega) rO4 v4 wv eU) ?_))
            intro r h5 hx
            obtain ⟨rfl, F6, j3, -⟩ := hx
            have F7 : Fr (sG g l) h h5 := F5.trans (F6.mono (fun a k e => by unfold sG at *; omega))
            have L5 : LayG h5 g := L4.fr F6 (by unfold sG; omega) (fun k => by unfold sG; omega)
            have h15 : hR h5 g 1 = some o := by rw [(F6.2.2.2 g 1 (by unfold sG; omega)).2.2]; exact h14
            have h25 : hI h5 g 2 = nI f := by rw [(F6.2.2.2 g 2 (by unfold sG; omega)).1]; exact h24
            have rO5 : RepO h5 o D := rO4.fr F6 (fun i k hi => by unfold sG; omega) W.1
            have v5 : RepV h5 (g + 2 + (l + 1)) V' := v4.fr F6 (fun k => by unfold sG; omega)
            have i5 : hI h5 g 3 = hI h' g 3 := by rw [j3 (by omega), i4]
            obtain ⟨m1, m2, m3, m4⟩ := id L5
            refine ok_gd m1 (ok_bR h15 (ok_gd m1 (ok_lt (ok_gd m1 (ok_bR m2 (ok_gd (ai_of m3 (by omega) (by decide)) ?_))))))
            rw [nI_clamp (by omega), h25]
            refine ok_bR (m4 (l + 1) (by omega)).1 (ok_gd rO5.1.1 (ok_bde (e_O_isOn W rO5 v5 wv.wf hf) ?_))
            rw [eU.on]
            have hsi : s i = gw D f n (decide ((l + 1) % 2 = 1)) (mvU D i U) + feN D f (mvU D i U) := by
              rw [hs, ← hcn]
              exact if_neg (by rw [← e0]; exact q3)
            have hgp := (gw_b (D := D) (f := f) n (decide ((l + 1) % 2 = 1)) (mvU D i U)).1
            have fin : ∀ v : Int32, v = nI (feN D f (mvU D i U)) → Ok (b_G_worth_102 (f_G_worth_n N) k g (nI (n + 1)) (nI l) (bI c) (nI (if c = true then n + 1 else 0)) (xI (bk3 c s i)) (nI i) v (xI (gw D f n (decide ((l + 1) % 2 = 1)) (mvU D i U))) h5) (fun r h' => r = xI (bk3 c s 3) ∧ Fr (sG g l) h h' ∧ (0 < l → hI h' g 3 = hI h g 3) ∧ (l = 0 → ∀ n', n + 1 = n' + 1 → hI h' g 3 = nI (gmv false (subG D f (gw D f n' true) U) 3))) := by
              intro v hv
              subst hv
              unfold b_G_worth_102
              refine ok_lt ?_
              rw [xI_add hgp, ← hsi]
              have hsp : 0 < s i := by omega
              have hsb := hb i
              refine ok_ix (by omega) (fun z => take h5 F7 m1 i5 ⟨by omega, Or.inl z⟩) (fun z => ?_)
              have x1 : xI (s i) = nI (s i - 1) := if_neg (by omega)
              have x2 : xI (bk3 c s i) = nI (bk3 c s i - 1) := if_neg z
              cases c with
              | false =>
                refine ok_t rfl ?_
                by_cases w : bk3 false s i - 1 ≤ s i - 1
                · refine ok_t (by rw [x1, x2]; exact nI_le w (by omega)) (skip h5 F7 i5 (by rw [bet_f]; omega))
                · refine ok_f (by rw [x1, x2]; exact fun w2 => w ((nI_leI (by omega) (by omega)).mp w2)) (take h5 F7 m1 i5 (by rw [bet_f]; omega))
              | true =>
                refine ok_f (by decide) ?_
                by_cases w : s i - 1 ≤ bk3 true s i - 1
                · refine ok_t (by rw [x1, x2]; exact nI_le w (by omega)) (skip h5 F7 i5 (by rw [bet_t]; omega))
                · refine ok_f (by rw [x1, x2]; exact fun w2 => w ((nI_leI (by omega) (by omega)).mp w2)) (take h5 F7 m1 i5 (by rw [bet_t]; omega))
            refine ok_ib (fun w => fin _ ?_) (fun w => fin _ ?_)
            · unfold feN
              rw [w]
              rfl
            · unfold feN
              rw [w]
              rfl
    show Ok (g_G_worth (f_G_worth_n N) g (nI (n + 1)) (nI l) h) _
    unfold g_G_worth b_G_worth_24 b_G_worth_34
    refine ok_f (by exact fun w => by have := (nI_leI (a := n + 1) (b := 0) (by omega) (by decide)).mp w; omega) (ok_t (nI_lt (a := l) (b := 6) (by omega) (by decide)) ?_)
    have ha := and1 l (by omega)
    by_cases q : l % 2 = 1
    · rw [decide_eq_true q] at hc
      subst hc
      exact ok_t (ha.mpr q) (ok_f (by decide) (ok_lt (ok_lt main)))
    · rw [decide_eq_false q] at hc
      subst hc
      exact ok_f (fun w => q (ha.mp w)) (ok_t rfl (ok_lt (ok_lt main)))
end GB
