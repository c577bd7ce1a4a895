/-! comesRound, idle: both sides -/
theorem cnt_congr {P Q : Nat → Bool} {n : Nat} (h : ∀ i, i < n → P i = Q i) : cntN P n = cntN Q n := by
  induction n with
  | zero => rfl
  | succ n ih =>
    show cntN P n + (if P n = true then 1 else 0) = cntN Q n + (if Q n = true then 1 else 0)
    rw [ih (fun i hi => h i (by omega)), h n (by omega)]
theorem cnt_add1 (P : Nat → Bool) (a n : Nat) : cntN (fun u => P u || decide (a = u)) n = cntN P n + (if a < n ∧ P a = false then 1 else 0) := by
  induction n with
  | zero => rfl
  | succ n ih =>
    show cntN (fun u => P u || decide (a = u)) n + (if (P n || decide (a = n)) = true then 1 else 0) = cntN P n + (if P n = true then 1 else 0) + _
    rw [ih]
    by_cases e : a = n
    · subst e
      cases hp : P a <;> simp
    · by_cases e2 : a < n
      · cases hp : P n <;> cases hq : P a <;> simp [e, e2, show a < n + 1 by omega] <;> omega
      · cases hp : P n <;> simp [e, e2, show ¬ a < n + 1 by omega]
def anyN (P : Nat → Bool) : Nat → Bool
  | 0 => false
  | n + 1 => anyN P n || P n
theorem any_iff (P : Nat → Bool) (n : Nat) : anyN P n = true ↔ ∃ i, i < n ∧ P i = true := by
  induction n with
  | zero => exact ⟨(fun e => by cases e), fun ⟨i, hi, _⟩ => absurd hi (Nat.not_lt_zero _)⟩
  | succ n ih =>
    show (anyN P n || P n) = true ↔ _
    rw [Bool.or_eq_true, ih]
    refine ⟨fun e => ?_, fun ⟨i, hi, hp⟩ => ?_⟩
    · rcases e with ⟨i, hi, hp⟩ | e
      · exact ⟨i, by omega, hp⟩
      · exact ⟨n, by omega, e⟩
    · by_cases q : i = n
      · exact Or.inr (by rw [← q]; exact hp)
      · exact Or.inl ⟨i, by omega, hp⟩
/-- as many are met as there are different ones -/
theorem cnt_img (s : Nat → Nat) (n : Nat) : ∀ m, (∀ i, i < m → s i < n) → (∀ i j, i < j → j < m → s i ≠ s j) → cntN (fun u => anyN (fun i => decide (s i = u)) m) n = m := by
  intro m
  induction m with
  | zero =>
    intro z1 z2
    clear z1 z2
    show cntN (fun _ => false) n = 0
    induction n with
    | zero => rfl
    | succ n ih => exact ih
  | succ m ih =>
    intro h1 h2
    have g := ih (fun i hi => h1 i (by omega)) (fun i j hij hj => h2 i j hij (by omega))
    show cntN (fun u => anyN (fun i => decide (s i = u)) m || decide (s m = u)) n = _
    have g2 : anyN (fun i => decide (s i = s m)) m = false := by
      cases e : anyN (fun i => decide (s i = s m)) m with
      | false => rfl
      | true =>
        obtain ⟨i, hi, hp⟩ := (any_iff _ _).mp e
        exact absurd (of_decide_eq_true hp) (h2 i m hi (by omega))
    rw [cnt_add1 (fun u => anyN (fun i => decide (s i = u)) m), g, if_pos ⟨h1 m (by omega), g2⟩]
theorem cnt_not (P : Nat → Bool) (n : Nat) : cntN (fun u => !P u) n + cntN P n = n := by
  induction n with
  | zero => rfl
  | succ n ih =>
    show cntN (fun u => !P u) n + (if (!P n) = true then 1 else 0) + (cntN P n + (if P n = true then 1 else 0)) = n + 1
    cases P n <;> simp <;> omega
/-- the teeth that G goings don't meet -/
theorem idle_cnt {f : Nat → Nat} {t L r T G : Nat} (ro : Orb f t L r) (hf : ∀ u, u < T → f u < T) (ht : t < T) : cntN (fun u => !anyN (fun a => decide (it f a t = u)) (G + 1)) T = T - min L (G + 1) := by
  have hl := ro.1
  have e : cntN (fun u => anyN (fun a => decide (it f a t = u)) (G + 1)) T = min L (G + 1) := by
    rw [cnt_congr (Q := fun u => anyN (fun i => decide (it f i t = u)) (min L (G + 1))) (fun u _ => ?_)]
    · exact cnt_img (fun i => it f i t) T (min L (G + 1)) (fun i _ => it_lt hf ht i) (fun i j hij hj => ro.2.2 i j hij (by omega))
    · cases q : anyN (fun i => decide (it f i t = u)) (min L (G + 1)) with
      | true =>
        obtain ⟨i, hi, hu⟩ := (any_iff _ _).mp q
        exact (any_iff _ _).mpr ⟨i, by omega, hu⟩
      | false =>
        cases q2 : anyN (fun a => decide (it f a t = u)) (G + 1) with
        | false => rfl
        | true =>
          obtain ⟨a, ha, hu⟩ := (any_iff _ _).mp q2
          have hu := of_decide_eq_true hu
          obtain ⟨i, hi, he, h1, h2⟩ := orb_in ro a
          have q3 : anyN (fun i => decide (it f i t = u)) (min L (G + 1)) = true := by
            refine (any_iff _ _).mpr ⟨i, ?_, decide_eq_true (by rw [← he]; exact hu)⟩
            by_cases g : a < L
            · have := h1 g
              omega
            · omega
          rw [q] at q3
          cases q3
  have g := cnt_not (fun u => anyN (fun a => decide (it f a t = u)) (G + 1)) T
  rw [e] at g
  omega
theorem gb_sl' {u t : Nat} (hu : u < 64) (ht : t < 64) : gb ((1 : Int64) <<< ((nI u).toInt64 &&& 63)) t = decide (u = t) := by
  rw [gb_sl hu ht]
  exact decide_eq_decide.mpr eq_comm
section P2
variable {h h1 : Hp} {x m c j tl nc : Nat} {D : DD} {V : Nat → Nat} {K Im : Nat → Nat → Nat} {T : Nat → Int32} {fa : Int32}
theorem q_idle (W : Wst D V K c Im j tl nc) (R : RB h x D V K c Im j T tl fa) (w : Int32) : Pair x h m (fun h1 => RM h1 m D V K c Im j T tl fa) (f_B_idle x w h) (f_m_idle m w) := by
  obtain ⟨o, o', ho, LB, r3, r4, rO, rD, rV, rP, t1, t2, f1, sUs⟩ := id R; obtain ⟨⟨x1, x2, x3, x4, x5, x6, x7, x8, x9, x10, x11, x12, x13⟩, LR, LC, LK, LS, LG, LH⟩ := id LB
  obtain ⟨⟨o1, ⟨o2, o3, o4, o5, o6, o7, o8, o9, o10⟩, o11, o12, o13, o14, o15, o16⟩, ⟨p1, p2, p3, p4, p5, p6, p7⟩, oW, oX, oK, oE, oS⟩ := id rO
  have w1 := W.1.1.1
  cases hb : isN (dW D) w with
  | false =>
    refine ⟨-1, 1, by decide, ?_, fun h1 M => qM_st M (fun h0 M F _ => ?_)⟩
    · unfold f_B_idle
      refine ok_gd x1 (ok_bde (e_B_hasWheel x1 r3 rO w1 w) ?_)
      rw [hb]
      exact ok_t rfl (qB_ref Fr.rf x1)
    · refine ok_gd M.1.1 (ok_bde (e_m_isWheel M w1 w) ?_)
      rw [hb]
      exact ok_t rfl (qM_ref F M.1.1)
  | true =>
    obtain ⟨i, hi, rfl⟩ := isN_ex (by omega) hb
    have hv := W.2.1.v W.2.2.2.2.2.1
    have hT := W.1.1.2.2.2.2.2.2.2.1 i hi
    have hV1 := hv.2.1
    have h5 : i < 5 := by omega
    obtain ⟨l81, l82⟩ := o16 i h5
    have ow := oW i hi
    refine ⟨nI (cntN (fun u => !anyN (fun a => decide (it (wf D i) a (V (3 + i)) = u)) (wg D V i 5000 + 1)) (dT D i)), 0, by decide, ?_, fun h1 M => qM_st M (fun h0 M F _ => ?_)⟩
    · unfold f_B_idle
      refine ok_gd x1 (ok_bde (e_B_hasWheel x1 r3 rO w1 _) ?_)
      rw [hb]
      refine ok_f (by decide) ?_
      (try unfold QB); (try unfold QM); repeat (first | (with_reducible refine ok_lt ?_) | ((with_reducible refine ok_gd ?_ ?_); first | assumption | exact zb0 | exact zb1 | ((with_reducible apply ai_of) <;> first | assumption | omega | decide) | exact ai_lit (by assumption) (by decide) (by decide) (by decide)) | (refine ok_bR (by assumption) ?_))
      (try simp (disch := omega) only [nI_clamp, cl0, cl1, cl2, cl3, cl4, cl5, cl6, cl7, cl8])
      (try unfold QB); (try unfold QM); repeat (first | (with_reducible refine ok_lt ?_) | ((with_reducible refine ok_gd ?_ ?_); first | assumption | exact zb0 | exact zb1 | ((with_reducible apply ai_of) <;> first | assumption | omega | decide) | exact ai_lit (by assumption) (by decide) (by decide) (by decide)) | (refine ok_bR (by assumption) ?_))
      rw [ow.2.1]
      refine ok_bd (ok_mono (ok_B_courseOf R W hi) ?_)
      intro u h2 hx
      obtain ⟨rfl, hF, LU, L, r, hU⟩ := hx
      have x1' : hS h2 x = some (.inl 0) := by rw [hF.2.1]; exact x1
      refine ok_gd LU.1 (ok_bde (e_U_teethUntil (n := 5000) LU hU hT.1 (by decide) (by omega)) ?_)
      have hLT : L ≤ dT D i := php (dT D i) L (fun a => it (wf D i) a (V (3 + i))) (fun a _ => it_lt (fun u hu => wf_lt W.1.1 hi hu) (hv.2.2.2 i hi) a) hU.1.2.2
      have e := idle_cnt (T := dT D i) (G := wg D V i 5000) hU.1 (fun u hu => wf_lt W.1.1 hi hu) (hv.2.2.2 i hi)
      rw [pk_sub (by omega), e]
      exact qB_gr hF x1'
    · refine ok_gd M.1.1 (ok_bde (e_m_isWheel M w1 _) ?_)
      rw [hb]
      refine ok_f (by decide) ?_
      obtain ⟨LM, z0, z3, rX, rR, u1, u2, g1⟩ := id M; obtain ⟨a0, ⟨a1, a2, a3, a4, a5, a6, a7, a8, a9, a10, a11, a12, a13⟩, s1, s2, s3, s4, s5, s6, s7, s8, s9, s10, s11, s12, s13⟩ := id LM
      obtain ⟨q, q1, q2, q2', rQ⟩ := z3 (by omega)
      have h8 : i < 8 := by omega
      (try unfold QB); (try unfold QM); repeat (first | (with_reducible refine ok_lt ?_) | ((with_reducible refine ok_gd ?_ ?_); first | assumption | exact zb0 | exact zb1 | ((with_reducible apply ai_of) <;> first | assumption | omega | decide) | exact ai_lit (by assumption) (by decide) (by decide) (by decide)) | (refine ok_bR (by assumption) ?_))
      (try simp (disch := omega) only [nI_clamp, cl0, cl1, cl2, cl3, cl4, cl5, cl6, cl7, cl8])
      have hVb := hv.2.2.2 i hi
      have hTb := (W.1.1.2.2.2.2.2.2.2.1 i hi).2.2.1
      rw [rX.t (by omega) (by omega)]
      refine ok_bde (e_m_goings (n := 5000) LM q1 rQ W.1.1 rX hv hi (by decide)) ?_
      have hgl : wg D V i 5000 ≤ 5000 := gs_le
      generalize wg D V i 5000 = G at hgl
      have hit : ∀ a, it (wf D i) a (V (3 + i)) < dT D i := fun a => it_lt (fun u hu => wf_lt W.1.1 hi hu) (hv.2.2.2 i hi) a
      refine ok_dn (fun μ s h' => μ ≤ G ∧ (∃ top, s = (m, nI i, nI (it (wf D i) (G - μ) (V (3 + i))), top, nI μ) ∧ ∀ u, u < 64 → gb top u = anyN (fun a => decide (it (wf D i) a (V (3 + i)) = u)) (G - μ + 1)) ∧ Fk (fun a k => a = m ∧ k = 21) h0 h') ?_ FU G _ _ ⟨Nat.le_refl _, ⟨_, by rw [Nat.sub_self]; rfl, fun u hu => ?_⟩, Fk.rf⟩ (by show _ < 10000; omega)
      · intro k μ s h2 hI2 kc
        obtain ⟨hμ, ⟨top, rfl, htop⟩, hF2⟩ := hI2
        have a0' : hS h2 m = some (.inl 11) := by rw [hF2.2.1]; exact a0
        have q1' : hR h2 m 3 = some q := by rw [hF2.2.2.2.1]; exact q1
        have rQ' : RepQ h2 q D := rQ.fk hF2 (fun i k hi e => by omega)
        show Ok (b_m_idle_40 k m (nI i) (nI (it (wf D i) (G - μ) (V (3 + i)))) top (nI μ) h2) _
        unfold b_m_idle_40
        refine ok_ile (b := 0) (by omega) (by decide) (fun e => ?_) (fun e => ?_)
        · have e0 : μ = 0 := by omega
          rw [e0, Nat.sub_zero] at htop
          refine ok_lt (ok_lt ?_)
          refine ok_up (dT D i) (fun n s h' => s = (m, nI i, top, nI (cntN (fun u => !anyN (fun a => decide (it (wf D i) a (V (3 + i)) = u)) (G + 1)) n), nI n) ∧ h' = h2) ?_ FU 0 _ _ (Nat.zero_le _) ⟨rfl, rfl⟩ (by show _ < 10000; omega)
          intro k3 n s h' hn hI3 kk3
          obtain ⟨rfl, rfl⟩ := hI3
          show Ok (b_m_idle_70 k3 m (nI i) top (nI (cntN (fun u => !anyN (fun a => decide (it (wf D i) a (V (3 + i)) = u)) (G + 1)) n)) (nI n) h') _
          unfold b_m_idle_70 b_m_idle_102
          have rQ := rQ'
          obtain ⟨⟨b1, b2, b3, b4, b5, b6, b7, b8, b9, b10, b11⟩, ⟨c0, c1, c2, c3, c4, c5, c6, c7, c8⟩, qW, qX, qE, qK, qS⟩ := id rQ; have d0 := b2 0 (by decide); have d1 := b2 1 (by decide); have d2 := b2 2 (by decide); have d3 := b2 3 (by decide); have d4 := b2 4 (by decide); have d5 := b2 5 (by decide); have d6 := b2 6 (by decide); have d7 := b2 7 (by decide); have d8 := b2 8 (by decide); have d9 := b2 9 (by decide); have d10 := b2 10 (by decide); have d11 := b2 11 (by decide); have d12 := b2 12 (by decide); have d13 := b2 13 (by decide); have d14 := b2 14 (by decide); have d15 := b2 15 (by decide); have d16 := b2 16 (by decide); have e0 := b3 0 (by decide); have e1 := b3 1 (by decide); have e2 := b3 2 (by decide); have e3 := b3 3 (by decide); have f0 := b6 0 (by decide); have f1 := b6 1 (by decide); have f2 := b6 2 (by decide); have f3 := b6 3 (by decide); have f4 := b6 4 (by decide); have f5 := b6 5 (by decide)
          (try unfold QB); (try unfold QM); repeat (first | (with_reducible refine ok_lt ?_) | ((with_reducible refine ok_gd ?_ ?_); first | assumption | exact zb0 | exact zb1 | ((with_reducible apply ai_of) <;> first | assumption | omega | decide) | exact ai_lit (by assumption) (by decide) (by decide) (by decide)) | (refine ok_bR (by assumption) ?_))
          (try simp (disch := omega) only [nI_clamp, cl0, cl1, cl2, cl3, cl4, cl5, cl6, cl7, cl8])
          have g : hI h' (q + 1 + 1) i = nI (dT D i) := (qW i hi).2.1
          rw [g]
          refine ok_it hn (by omega) (fun e => ?_) (fun hl => ?_)
          · rw [e]
            exact qM_gr (F.trans (hF2.r.mono (fun a k e => by unfold ScM; omega))) a0'
          · have ht := htop n (by omega)
            refine ok_ite (fun c => ok_lt (kk3 _ _ hl ⟨?_, rfl⟩)) (fun c => ok_lt (kk3 _ _ hl ⟨?_, rfl⟩))
            · have c2 := (gb_z top (show n < 64 by omega)).mp c
              rw [nI_1, nI_1]
              show _ = (m, nI i, top, nI (cntN _ n + (if (!anyN (fun a => decide (it (wf D i) a (V (3 + i)) = n)) (G + 1)) = true then 1 else 0)), _)
              rw [← ht, c2]
              rfl
            · have c2 : gb top n = true := by
                cases e : gb top n with
                | true => rfl
                | false => exact absurd ((gb_z top (show n < 64 by omega)).mpr e) c
              rw [nI_1, Int32.add_zero]
              show _ = (m, nI i, top, nI (cntN _ n + (if (!anyN (fun a => decide (it (wf D i) a (V (3 + i)) = n)) (G + 1)) = true then 1 else 0)), _)
              rw [← ht, c2]
              rfl
        · refine ok_gd a0' (ok_bde (e_m_goesOnce a0' q1' rQ' W.1.1 hi (hit _)) (ok_lt ?_))
          have hF3 := hF2.trans (fk_uI (S := fun a k => a = m ∧ k = 21) (h := h2) (a := m) (k := 21) (v := bI (jk D i (dfw D i) (dB D i) (it (wf D i) (G - μ) (V (3 + i))))) ⟨rfl, rfl⟩)
          have eμ : G - (μ - 1) = G - μ + 1 := by omega
          have e1 : nI μ + -1 = nI (μ - 1) := by
            have e2 := pk_m1 (μ - 1)
            rw [show μ - 1 + 1 = μ by omega] at e2
            exact e2
          have hst : tp D i (dfw D i) (dB D i) (it (wf D i) (G - μ) (V (3 + i))) = it (wf D i) (G - (μ - 1)) (V (3 + i)) := by
            rw [eμ]
            rfl
          have hil := hit (G - (μ - 1))
          rw [e1, hst]
          refine kc (μ - 1) _ _ (by omega) ⟨by omega, ⟨_, rfl, fun u hu => ?_⟩, hF3⟩
          rw [gb_or _ _ hu, htop u hu, gb_sl' (by omega) hu, eμ]
          rfl
      · have hh : V (3 + i) < dT D i := hit 0
        rw [Nat.sub_self, gb_sl' (show V (3 + i) < 64 by omega) hu]
        rfl
theorem q_comesRound (W : Wst D V K c Im j tl nc) (R : RB h x D V K c Im j T tl fa) (w : Int32) : Pair x h m (fun h1 => RM h1 m D V K c Im j T tl fa) (f_B_comesRound x w h) (f_m_comesRound m w) := by
  obtain ⟨o, o', ho, LB, r3, r4, rO, rD, rV, rP, t1, t2, f1, sUs⟩ := id R; obtain ⟨⟨x1, x2, x3, x4, x5, x6, x7, x8, x9, x10, x11, x12, x13⟩, LR, LC, LK, LS, LG, LH⟩ := id LB
  obtain ⟨⟨o1, ⟨o2, o3, o4, o5, o6, o7, o8, o9, o10⟩, o11, o12, o13, o14, o15, o16⟩, ⟨p1, p2, p3, p4, p5, p6, p7⟩, oW, oX, oK, oE, oS⟩ := id rO
  have w1 := W.1.1.1
  cases hb : isN (dW D) w with
  | false =>
    refine ⟨-1, 1, by decide, ?_, fun h1 M => qM_st M (fun h0 M F _ => ?_)⟩
    · unfold f_B_comesRound
      refine ok_gd x1 (ok_bde (e_B_hasWheel x1 r3 rO w1 w) ?_)
      rw [hb]
      exact ok_t rfl (qB_ref Fr.rf x1)
    · refine ok_gd M.1.1 (ok_bde (e_m_isWheel M w1 w) ?_)
      rw [hb]
      exact ok_t rfl (qM_ref F M.1.1)
  | true =>
    obtain ⟨i, hi, rfl⟩ := isN_ex (by omega) hb
    have hv := W.2.1.v W.2.2.2.2.2.1
    have hT := W.1.1.2.2.2.2.2.2.2.1 i hi
    have hV1 := hv.2.1
    have h5 : i < 5 := by omega
    obtain ⟨l81, l82⟩ := o16 i h5
    have ow := oW i hi
    have v1 := rV.1
    have gv1 : hI h (x + 36) 1 = nI (V 1) := rV.2 1 (by decide)
    by_cases hk : dK D i = 2 ∧ 0 < V 1
    · refine ⟨-1, 5, by decide, ?_, fun h1 M => qM_st M (fun h0 M F _ => ?_)⟩
      · unfold f_B_comesRound
        refine ok_gd x1 (ok_bde (e_B_hasWheel x1 r3 rO w1 _) ?_)
        rw [hb]
        refine ok_f (by decide) ?_
        (try unfold QB); (try unfold QM); repeat (first | (with_reducible refine ok_lt ?_) | ((with_reducible refine ok_gd ?_ ?_); first | assumption | exact zb0 | exact zb1 | ((with_reducible apply ai_of) <;> first | assumption | omega | decide) | exact ai_lit (by assumption) (by decide) (by decide) (by decide)) | (refine ok_bR (by assumption) ?_))
        (try simp (disch := omega) only [nI_clamp, cl0, cl1, cl2, cl3, cl4, cl5, cl6, cl7, cl8])
        (try unfold QB); (try unfold QM); repeat (first | (with_reducible refine ok_lt ?_) | ((with_reducible refine ok_gd ?_ ?_); first | assumption | exact zb0 | exact zb1 | ((with_reducible apply ai_of) <;> first | assumption | omega | decide) | exact ai_lit (by assumption) (by decide) (by decide) (by decide)) | (refine ok_bR (by assumption) ?_))
        rw [ow.1, hk.1]
        refine ok_t rfl ?_
        (try unfold QB); (try unfold QM); repeat (first | (with_reducible refine ok_lt ?_) | ((with_reducible refine ok_gd ?_ ?_); first | assumption | exact zb0 | exact zb1 | ((with_reducible apply ai_of) <;> first | assumption | omega | decide) | exact ai_lit (by assumption) (by decide) (by decide) (by decide)) | (refine ok_bR (by assumption) ?_))
        rw [gv1]
        exact ok_f (nI_nle hk.2 (by omega)) (qB_ref Fr.rf x1)
      · refine ok_gd M.1.1 (ok_bde (e_m_isWheel M w1 _) ?_)
        rw [hb]
        refine ok_f (by decide) ?_
        obtain ⟨LM, z0, z3, rX, rR, u1, u2, g1⟩ := id M; obtain ⟨a0, ⟨a1, a2, a3, a4, a5, a6, a7, a8, a9, a10, a11, a12, a13⟩, s1, s2, s3, s4, s5, s6, s7, s8, s9, s10, s11, s12, s13⟩ := id LM
        obtain ⟨q, q1, q2, q2', rQ⟩ := z3 (by omega)
        obtain ⟨⟨b1, b2, b3, b4, b5, b6, b7, b8, b9, b10, b11⟩, ⟨c0, c1, c2, c3, c4, c5, c6, c7, c8⟩, qW, qX, qE, qK, qS⟩ := id rQ; have d0 := b2 0 (by decide); have d1 := b2 1 (by decide); have d2 := b2 2 (by decide); have d3 := b2 3 (by decide); have d4 := b2 4 (by decide); have d5 := b2 5 (by decide); have d6 := b2 6 (by decide); have d7 := b2 7 (by decide); have d8 := b2 8 (by decide); have d9 := b2 9 (by decide); have d10 := b2 10 (by decide); have d11 := b2 11 (by decide); have d12 := b2 12 (by decide); have d13 := b2 13 (by decide); have d14 := b2 14 (by decide); have d15 := b2 15 (by decide); have d16 := b2 16 (by decide); have e0 := b3 0 (by decide); have e1 := b3 1 (by decide); have e2 := b3 2 (by decide); have e3 := b3 3 (by decide); have f0 := b6 0 (by decide); have f1 := b6 1 (by decide); have f2 := b6 2 (by decide); have f3 := b6 3 (by decide); have f4 := b6 4 (by decide); have f5 := b6 5 (by decide)
        (try unfold QB); (try unfold QM); repeat (first | (with_reducible refine ok_lt ?_) | ((with_reducible refine ok_gd ?_ ?_); first | assumption | exact zb0 | exact zb1 | ((with_reducible apply ai_of) <;> first | assumption | omega | decide) | exact ai_lit (by assumption) (by decide) (by decide) (by decide)) | (refine ok_bR (by assumption) ?_))
        (try simp (disch := omega) only [nI_clamp, cl0, cl1, cl2, cl3, cl4, cl5, cl6, cl7, cl8])
        have g : hI h0 (q + 1 + 0) i = nI (dK D i) := (qW i hi).1
        rw [g, hk.1]
        refine ok_t rfl ?_
        (try unfold QB); (try unfold QM); repeat (first | (with_reducible refine ok_lt ?_) | ((with_reducible refine ok_gd ?_ ?_); first | assumption | exact zb0 | exact zb1 | ((with_reducible apply ai_of) <;> first | assumption | omega | decide) | exact ai_lit (by assumption) (by decide) (by decide) (by decide)) | (refine ok_bR (by assumption) ?_))
        have g6 : hI h0 (m + 2) 6 = nI (V 1) := rX.2 6 (by decide)
        rw [g6]
        exact ok_f (nI_nle hk.2 (by omega)) (qM_ref F a0)
    · -- the course is asked
      have hOrb : ∃ L r, Orb (wf D i) (V (3 + i)) L r ∧ Ok (b_B_comesRound_45 x (nI i) h) (fun r' h' => r' = (if dK D i = 2 then 1 else if r = 0 then nI (if dK D i = 3 then 2 * L else L) else -2) ∧ Fr (ScB x) h h' ∧ hI h' x 15 = 0) := by
        obtain ⟨u, h2, he, rfl, hF, LU, L, r, hU⟩ := ok_B_courseOf R W hi
        have x1' : hS h2 x = some (.inl 0) := by rw [hF.2.1]; exact x1
        refine ⟨L, r, hU.1, ?_⟩
        unfold b_B_comesRound_45
        refine ok_gd x1 (ok_bde he (ok_gd LU.1 (ok_bde (e_U_daysRound LU hU hT.1) ?_)))
        exact qB_gr hF x1'
      obtain ⟨L, r, ro, hC⟩ := hOrb
      have hit : ∀ a, it (wf D i) a (V (3 + i)) < dT D i := fun a => it_lt (fun u hu => wf_lt W.1.1 hi hu) (hv.2.2.2 i hi) a
      have hLT : L ≤ dT D i := php (dT D i) L (fun a => it (wf D i) a (V (3 + i))) (fun a _ => hit a) ro.2.2
      refine ⟨if dK D i = 2 then 1 else if r = 0 then nI (if dK D i = 3 then 2 * L else L) else -2, 0, by decide, ?_, fun h1 M => qM_st M (fun h0 M F _ => ?_)⟩
      · unfold f_B_comesRound
        refine ok_gd x1 (ok_bde (e_B_hasWheel x1 r3 rO w1 _) ?_)
        rw [hb]
        refine ok_f (by decide) ?_
        (try unfold QB); (try unfold QM); repeat (first | (with_reducible refine ok_lt ?_) | ((with_reducible refine ok_gd ?_ ?_); first | assumption | exact zb0 | exact zb1 | ((with_reducible apply ai_of) <;> first | assumption | omega | decide) | exact ai_lit (by assumption) (by decide) (by decide) (by decide)) | (refine ok_bR (by assumption) ?_))
        (try simp (disch := omega) only [nI_clamp, cl0, cl1, cl2, cl3, cl4, cl5, cl6, cl7, cl8])
        (try unfold QB); (try unfold QM); repeat (first | (with_reducible refine ok_lt ?_) | ((with_reducible refine ok_gd ?_ ?_); first | assumption | exact zb0 | exact zb1 | ((with_reducible apply ai_of) <;> first | assumption | omega | decide) | exact ai_lit (by assumption) (by decide) (by decide) (by decide)) | (refine ok_bR (by assumption) ?_))
        rw [ow.1]
        refine ok_ieq (b := 2) (by omega) (by decide) (fun c2 => ?_) (fun c2 => hC)
        (try unfold QB); (try unfold QM); repeat (first | (with_reducible refine ok_lt ?_) | ((with_reducible refine ok_gd ?_ ?_); first | assumption | exact zb0 | exact zb1 | ((with_reducible apply ai_of) <;> first | assumption | omega | decide) | exact ai_lit (by assumption) (by decide) (by decide) (by decide)) | (refine ok_bR (by assumption) ?_))
        rw [gv1]
        exact ok_ile (b := 0) (by omega) (by decide) (fun _ => hC) (fun c3 => absurd ⟨c2, c3⟩ hk)
      · refine ok_gd M.1.1 (ok_bde (e_m_isWheel M w1 _) ?_)
        rw [hb]
        refine ok_f (by decide) ?_
        obtain ⟨LM, z0, z3, rX, rR, u1, u2, g1⟩ := id M; obtain ⟨a0, ⟨a1, a2, a3, a4, a5, a6, a7, a8, a9, a10, a11, a12, a13⟩, s1, s2, s3, s4, s5, s6, s7, s8, s9, s10, s11, s12, s13⟩ := id LM
        obtain ⟨q, q1, q2, q2', rQ⟩ := z3 (by omega)
        obtain ⟨⟨b1, b2, b3, b4, b5, b6, b7, b8, b9, b10, b11⟩, ⟨c0, c1, c2, c3, c4, c5, c6, c7, c8⟩, qW, qX, qE, qK, qS⟩ := id rQ; have d0 := b2 0 (by decide); have d1 := b2 1 (by decide); have d2 := b2 2 (by decide); have d3 := b2 3 (by decide); have d4 := b2 4 (by decide); have d5 := b2 5 (by decide); have d6 := b2 6 (by decide); have d7 := b2 7 (by decide); have d8 := b2 8 (by decide); have d9 := b2 9 (by decide); have d10 := b2 10 (by decide); have d11 := b2 11 (by decide); have d12 := b2 12 (by decide); have d13 := b2 13 (by decide); have d14 := b2 14 (by decide); have d15 := b2 15 (by decide); have d16 := b2 16 (by decide); have e0 := b3 0 (by decide); have e1 := b3 1 (by decide); have e2 := b3 2 (by decide); have e3 := b3 3 (by decide); have f0 := b6 0 (by decide); have f1 := b6 1 (by decide); have f2 := b6 2 (by decide); have f3 := b6 3 (by decide); have f4 := b6 4 (by decide); have f5 := b6 5 (by decide)
        (try unfold QB); (try unfold QM); repeat (first | (with_reducible refine ok_lt ?_) | ((with_reducible refine ok_gd ?_ ?_); first | assumption | exact zb0 | exact zb1 | ((with_reducible apply ai_of) <;> first | assumption | omega | decide) | exact ai_lit (by assumption) (by decide) (by decide) (by decide)) | (refine ok_bR (by assumption) ?_))
        (try simp (disch := omega) only [nI_clamp, cl0, cl1, cl2, cl3, cl4, cl5, cl6, cl7, cl8])
        have g : hI h0 (q + 1 + 0) i = nI (dK D i) := (qW i hi).1
        rw [g]
        refine ok_ieq (b := 2) (by omega) (by decide) (fun c2 => ?_) (fun c2 => ?_)
        · (try unfold QB); (try unfold QM); repeat (first | (with_reducible refine ok_lt ?_) | ((with_reducible refine ok_gd ?_ ?_); first | assumption | exact zb0 | exact zb1 | ((with_reducible apply ai_of) <;> first | assumption | omega | decide) | exact ai_lit (by assumption) (by decide) (by decide) (by decide)) | (refine ok_bR (by assumption) ?_))
          have g6 : hI h0 (m + 2) 6 = nI (V 1) := rX.2 6 (by decide)
          rw [g6, if_pos c2]
          exact ok_ile (b := 0) (by omega) (by decide) (fun _ => qM_gr F a0) (fun c3 => absurd ⟨c2, c3⟩ hk)
        · have h8 : i < 8 := by omega
          (try unfold QB); (try unfold QM); repeat (first | (with_reducible refine ok_lt ?_) | ((with_reducible refine ok_gd ?_ ?_); first | assumption | exact zb0 | exact zb1 | ((with_reducible apply ai_of) <;> first | assumption | omega | decide) | exact ai_lit (by assumption) (by decide) (by decide) (by decide)) | (refine ok_bR (by assumption) ?_))
          have hVb := hv.2.2.2 i hi
          have hTb := (W.1.1.2.2.2.2.2.2.2.1 i hi).2.2.1
          rw [rX.t (by omega) (by omega), if_neg c2]
          refine ok_up (dT D i) (fun n s h' => s = (m, nI i, nI (it (wf D i) n (V (3 + i))), nI (n + 1)) ∧ Fk (fun a k => a = m ∧ k = 21) h0 h' ∧ ∀ a, 0 < a → a ≤ n → it (wf D i) a (V (3 + i)) ≠ V (3 + i)) ?_ FU 0 _ _ (Nat.zero_le _) ⟨rfl, Fk.rf, fun a ha hb => by omega⟩ (by show _ < 10000; omega)
          intro k n s h2 hn hI2 kk
          obtain ⟨rfl, hF2, hno⟩ := hI2
          have a0' : hS h2 m = some (.inl 11) := by rw [hF2.2.1]; exact a0
          have a2' : hR h2 m 15 = some (m + 2) := by rw [hF2.2.2.2.1]; exact a2
          have q1' : hR h2 m 3 = some q := by rw [hF2.2.2.2.1]; exact q1
          have rQ' : RepQ h2 q D := rQ.fk hF2 (fun i k hi e => by omega)
          have rX' : RepX h2 (m + 2) V := rX.fk hF2 (fun k e => by omega)
          have s2' := rX'.1
          show Ok (b_m_comesRound_65 k m (nI i) (nI (it (wf D i) n (V (3 + i)))) (nI (n + 1)) h2) _
          unfold b_m_comesRound_65 b_m_comesRound_116
          have F2 := F.trans (hF2.r.mono (S' := ScM m) (fun a k e => by unfold ScM; omega))
          clear rQ b1 b2 b3 b4 b5 b6 b7 b8 b9 b10 b11 c0 c1 c2 c3 c4 c5 c6 c7 c8 qW qX qE qK qS d0 d1 d2 d3 d4 d5 d6 d7 d8 d9 d10 d11 d12 d13 d14 d15 d16 e0 e1 e2 e3 f0 f1 f2 f3 f4 f5
          have rQ := rQ'
          obtain ⟨⟨b1, b2, b3, b4, b5, b6, b7, b8, b9, b10, b11⟩, ⟨c0, c1, c2, c3, c4, c5, c6, c7, c8⟩, qW, qX, qE, qK, qS⟩ := id rQ; have d0 := b2 0 (by decide); have d1 := b2 1 (by decide); have d2 := b2 2 (by decide); have d3 := b2 3 (by decide); have d4 := b2 4 (by decide); have d5 := b2 5 (by decide); have d6 := b2 6 (by decide); have d7 := b2 7 (by decide); have d8 := b2 8 (by decide); have d9 := b2 9 (by decide); have d10 := b2 10 (by decide); have d11 := b2 11 (by decide); have d12 := b2 12 (by decide); have d13 := b2 13 (by decide); have d14 := b2 14 (by decide); have d15 := b2 15 (by decide); have d16 := b2 16 (by decide); have e0 := b3 0 (by decide); have e1 := b3 1 (by decide); have e2 := b3 2 (by decide); have e3 := b3 3 (by decide); have f0 := b6 0 (by decide); have f1 := b6 1 (by decide); have f2 := b6 2 (by decide); have f3 := b6 3 (by decide); have f4 := b6 4 (by decide); have f5 := b6 5 (by decide)
          (try unfold QB); (try unfold QM); repeat (first | (with_reducible refine ok_lt ?_) | ((with_reducible refine ok_gd ?_ ?_); first | assumption | exact zb0 | exact zb1 | ((with_reducible apply ai_of) <;> first | assumption | omega | decide) | exact ai_lit (by assumption) (by decide) (by decide) (by decide)) | (refine ok_bR (by assumption) ?_))
          (try simp (disch := omega) only [nI_clamp, cl0, cl1, cl2, cl3, cl4, cl5, cl6, cl7, cl8])
          have g : hI h2 (q + 1 + 1) i = nI (dT D i) := (qW i hi).2.1
          rw [g]
          refine ok_ilt (by omega) (by omega) (fun e => ?_) (fun e => ?_)
          · have er : r ≠ 0 := fun er => by
              have e5 := ro.2.1
              rw [er] at e5
              exact hno L (by have := ro.1; omega) (by omega) e5
            rw [if_neg er]
            exact qM_gr F2 a0'
          · refine ok_gd a0' (ok_bde (e_m_goesOnce a0' q1' rQ' W.1.1 hi (hit _)) ?_)
            have hst : tp D i (dfw D i) (dB D i) (it (wf D i) n (V (3 + i))) = it (wf D i) (n + 1) (V (3 + i)) := rfl
            rw [hst]
            have hF3 := hF2.trans (fk_uI (S := fun a k => a = m ∧ k = 21) (h := h2) (a := m) (k := 21) (v := bI (jk D i (dfw D i) (dB D i) (it (wf D i) n (V (3 + i))))) ⟨rfl, rfl⟩)
            have F3 := F.trans (hF3.r.mono (S' := ScM m) (fun a k e => by unfold ScM; omega))
            (try unfold QB); (try unfold QM); repeat (first | (with_reducible refine ok_lt ?_) | ((with_reducible refine ok_gd ?_ ?_); first | assumption | exact zb0 | exact zb1 | ((with_reducible apply ai_of) <;> first | assumption | omega | decide) | exact ai_lit (by assumption) (by decide) (by decide) (by decide)) | (refine ok_bR (by assumption) ?_))
            (try simp (disch := omega) only [nI_clamp, cl0, cl1, cl2, cl3, cl4, cl5, cl6, cl7, cl8])
            have gx : hI (uI h2 m 21 (bI (jk D i (dfw D i) (dB D i) (it (wf D i) n (V (3 + i)))))) (m + 2) i = nI (V (3 + i)) := by
              rw [hI_uIa (by omega)]
              exact rX'.t h5 (by omega)
            rw [gx]
            have hVi := hv.2.2.2 i hi
            have hn1 := hit (n + 1)
            refine ok_ieq (by omega) (by omega) (fun e2 => ?_) (fun e2 => ?_)
            · have er : r = 0 ∧ L = n + 1 := by
                have e5 : it (wf D i) (n + 1) (V (3 + i)) = it (wf D i) 0 (V (3 + i)) := e2
                have hL := ro.1
                rcases Nat.lt_or_ge (n + 1) L with g1 | g1
                · exact absurd e5.symm (ro.2.2 0 (n + 1) (by omega) g1)
                · have g2 := (orb_eq ro (i := 0) (by omega) g1 e5).1
                  have e6 := ro.2.1
                  have er : r = 0 := by omega
                  rw [er] at e6
                  refine ⟨er, ?_⟩
                  rcases Nat.lt_or_ge L (n + 1) with g3 | g3
                  · exact absurd e6 (hno L (by omega) (by omega))
                  · omega
              rw [if_pos er.1, er.2]
              (try unfold QB); (try unfold QM); repeat (first | (with_reducible refine ok_lt ?_) | ((with_reducible refine ok_gd ?_ ?_); first | assumption | exact zb0 | exact zb1 | ((with_reducible apply ai_of) <;> first | assumption | omega | decide) | exact ai_lit (by assumption) (by decide) (by decide) (by decide)) | (refine ok_bR (by assumption) ?_))
              (try simp (disch := omega) only [nI_clamp, cl0, cl1, cl2, cl3, cl4, cl5, cl6, cl7, cl8])
              have g' : hI (uI h2 m 21 (bI (jk D i (dfw D i) (dB D i) (it (wf D i) n (V (3 + i)))))) (q + 1 + 0) i = nI (dK D i) := by
                rw [hI_uIa (by omega)]
                exact (qW i hi).1
              rw [g']
              refine ok_ieq (b := 3) (by omega) (by decide) (fun c3 => ?_) (fun c3 => ?_)
              · rw [if_pos c3, show (2 : Int32) * nI (n + 1) = nI (2 * (n + 1)) from pk_mul 2 (n + 1)]
                exact qM_gr F3 a0'
              · rw [if_neg c3]
                exact qM_gr F3 a0'
            · refine kk _ _ (by omega) ⟨by rw [nI_1], hF3, fun a ha hb => ?_⟩
              by_cases e5 : a = n + 1
              · rw [e5]
                exact e2
              · exact hno a ha (by omega)
end P2
