/-! a wheel's course -/
theorem al_of {h : Hp} {a t N : Nat} (hs : hS h a = some (.inr (t, N))) : al h a t = some N := by
  unfold al
  rw [hs]
  simp
theorem ok_fillI {h : Hp} {a N : Nat} {v : Int32} (hs : hS h a = some (.inr (0, N))) (hN : N < 10000) : Ok (f_Arr_fillI a v h) (fun _ h' => Fk (fun b _ => b = a) h h' ∧ ∀ k, k < N → hI h' a k = v) := by
  unfold f_Arr_fillI
  refine ok_lt (ok_bR (al_of hs) (ok_lt ?_))
  refine ok_up N (fun i st h' => st = (a, v, nI i, nI N) ∧ Fk (fun b _ => b = a) h h' ∧ ∀ k, k < i → hI h' a k = v) ?_ FU 0 _ _ (Nat.zero_le _) ⟨rfl, Fk.rf, fun k hk => absurd hk (Nat.not_lt_zero _)⟩ (by show _ < 10000; omega)
  intro k i st h' hi hI' kk
  obtain ⟨rfl, hF, hp⟩ := hI'
  show Ok (b_Arr_fillI_5 k a v (nI i) (nI N) h') _
  unfold b_Arr_fillI_5
  have hs' : hS h' a = some (.inr (0, N)) := by rw [hF.2.1]; exact hs
  refine ok_it hi (by omega) (fun e => ok_ret ⟨hF, by rw [← e]; exact hp⟩) (fun hl => ?_)
  refine ok_gd (ai_of hs' hl (by omega)) (ok_lt ?_)
  (try simp (disch := omega) only [nI_clamp, cl0, cl1, cl2, cl3, cl4, cl5, cl6, cl7, cl8])
  refine kk _ _ hl ⟨by rw [nI_1], hF.trans (fk_uI rfl), fun j hj => ?_⟩
  rw [hI_uI]
  by_cases e : j = i
  · rw [if_pos ⟨rfl, e⟩]
  · rw [if_neg (fun g => e g.2)]
    exact hp j (by omega)
theorem ok_fillJ {h : Hp} {a N : Nat} {v : Int64} (hs : hS h a = some (.inr (1, N))) (hN : N < 10000) : Ok (f_Arr_fillJ a v h) (fun _ h' => Fk (fun b _ => b = a) h h' ∧ ∀ k, k < N → hL h' a k = v) := by
  unfold f_Arr_fillJ
  refine ok_lt (ok_bR (al_of hs) (ok_lt ?_))
  refine ok_up N (fun i st h' => st = (a, v, nI i, nI N) ∧ Fk (fun b _ => b = a) h h' ∧ ∀ k, k < i → hL h' a k = v) ?_ FU 0 _ _ (Nat.zero_le _) ⟨rfl, Fk.rf, fun k hk => absurd hk (Nat.not_lt_zero _)⟩ (by show _ < 10000; omega)
  intro k i st h' hi hI' kk
  obtain ⟨rfl, hF, hp⟩ := hI'
  show Ok (b_Arr_fillJ_6 k a v (nI i) (nI N) h') _
  unfold b_Arr_fillJ_6
  have hs' : hS h' a = some (.inr (1, N)) := by rw [hF.2.1]; exact hs
  refine ok_it hi (by omega) (fun e => ok_ret ⟨hF, by rw [← e]; exact hp⟩) (fun hl => ?_)
  refine ok_gd (ai_of hs' hl (by omega)) (ok_lt ?_)
  (try simp (disch := omega) only [nI_clamp, cl0, cl1, cl2, cl3, cl4, cl5, cl6, cl7, cl8])
  refine kk _ _ hl ⟨by rw [nI_1], hF.trans (fk_uL rfl), fun j hj => ?_⟩
  rw [hL_uL]
  by_cases e : j = i
  · rw [if_pos ⟨rfl, e⟩]
  · rw [if_neg (fun g => e g.2)]
    exact hp j (by omega)
/-- a step of a wheel, and its jerk -/
def stp (n : Nat) (g : Int64) (fw : Bool) (b t : Nat) : Nat := rs n g fw 2 (nx n fw b t)
def sjk (n : Nat) (g : Int64) (fw : Bool) (b t : Nat) : Bool := gb g (nx n fw b t)
theorem stp_lt {n b t : Nat} {g : Int64} {fw : Bool} (h1 : 1 < n) (ht : t < n) (hb : b < n) : stp n g fw b t < n := rs_lt h1 (nx_lt ht hb)
def RepU (h : Hp) (u : Nat) (f : Nat → Nat) (J : Nat → Bool) (t0 k d o L r : Nat) : Prop := Orb f t0 L r ∧ L ≤ 60 ∧ hI h u 3 = nI L ∧ hI h u 4 = nI r ∧ hI h u 5 = nI k ∧ hI h u 6 = nI o ∧ hI h u 7 = nI (if d % 2 = 0 then 1 else 0) ∧ (∀ i, i < L → hI h (u + 1) i = nI (it f i t0)) ∧ (∀ t, t < 60 → (∃ i, i < L ∧ it f i t0 = t ∧ hI h (u + 2) t = nI i) ∨ ((∀ i, i < L → it f i t0 ≠ t) ∧ hI h (u + 2) t = -1)) ∧ ∀ i, i ≤ L → hI h (u + 3) i = nI (cntN (fun a => J (it f a t0)) i)
/-- what following writes -/
def sU (u a k : Nat) : Prop := (a = u ∧ 3 ≤ k) ∨ a = u + 1 ∨ a = u + 2 ∨ (a = u + 3 ∧ 1 ≤ k)
theorem RepU.fr {S : Nat → Nat → Prop} {h h' : Hp} {u t0 k d o L r : Nat} {f : Nat → Nat} {J : Nat → Bool} (R : RepU h u f J t0 k d o L r) (F : Fr S h h') (hS' : ∀ i k, i < 4 → ¬ S (u + i) k) : RepU h' u f J t0 k d o L r := by
  have i0 : ∀ k, hI h' u k = hI h u k := fun k => (F.2.2.2 u k (hS' 0 k (by decide))).1
  have i1 : ∀ k, hI h' (u + 1) k = hI h (u + 1) k := fun k => (F.2.2.2 _ k (hS' 1 k (by decide))).1
  have i2 : ∀ k, hI h' (u + 2) k = hI h (u + 2) k := fun k => (F.2.2.2 _ k (hS' 2 k (by decide))).1
  have i3 : ∀ k, hI h' (u + 3) k = hI h (u + 3) k := fun k => (F.2.2.2 _ k (hS' 3 k (by decide))).1
  unfold RepU at *
  simp only [i0, i1, i2, i3]
  exact R
theorem LayU.fk {S : Nat → Nat → Prop} {h h' : Hp} {u : Nat} (L : LayU h u) (F : Fk S h h') (h0 : ¬ S (u + 3) 0) : LayU h' u := by
  unfold LayU
  rw [F.2.1, F.2.2.2.1, (F.2.2.2.2 _ _ h0).1]
  exact L
theorem cnt_le (P : Nat → Bool) (n : Nat) : cntN P n ≤ n := by
  induction n with
  | zero => exact Nat.le_refl _
  | succ n ih =>
    show cntN P n + (if P n = true then 1 else 0) ≤ n + 1
    split <;> omega
theorem e_max {h : Hp} {a b : Nat} (ha : a < 2 ^ 31) (hb : b < 2 ^ 31) : f_Math_max (nI a) (nI b) h = some (nI (max a b), h) := by
  unfold f_Math_max
  by_cases q : a < b
  · rw [if_pos (nI_lt q hb), Nat.max_eq_right (by omega)]
  · rw [if_neg (nI_nlt (by omega) ha), Nat.max_eq_left (by omega)]
section UF
variable {h : Hp} {u wa n b t0 k d o : Nat} {g : Int64} {fw : Bool}
set_option maxHeartbeats 2000000 in
theorem ok_U_follow (L : LayU h u) (hs : hS h wa = some (.inl 3)) (hwa : wa < u ∨ u + 4 ≤ wa) (hk : hI h wa 0 = nI k) (hk3 : k ≤ 3) (hn : hI h wa 1 = nI n) (hb : hI h wa 2 = nI b) (hg : hL h wa 5 = g) (h1 : 1 < n) (hn2 : n ≤ 60) (hb2 : b < n) (ht : t0 < n) (hd : d < 2 ^ 31) : Ok (f_U_follow u wa (nI t0) (nI d) (nI o) h) (fun _ h' => Fk (sU u) h h' ∧ ∃ LL r, RepU h' u (stp n g (decide (k ≠ 1)) b) (sjk n g (decide (k ≠ 1)) b) t0 k d o LL r) := by
  generalize hfw : decide (k ≠ 1) = fw
  have hit : ∀ i, it (stp n g fw b) i t0 < n := fun i => it_lt (fun t ht => stp_lt h1 ht hb2) ht i
  generalize hf : stp n g fw b = f at hit
  generalize hJ : sjk n g fw b = J
  have wk : ∀ {h' : Hp}, Fk (sU u) h h' → hS h' wa = some (.inl 3) ∧ hI h' wa 0 = nI k ∧ hI h' wa 1 = nI n ∧ hI h' wa 2 = nI b ∧ hL h' wa 5 = g := fun hF => by
    have no : ∀ k, ¬ sU u wa k := fun k e => by unfold sU at e; omega
    rw [hF.2.1, (hF.2.2.2.2 _ _ (no 0)).1, (hF.2.2.2.2 _ _ (no 1)).1, (hF.2.2.2.2 _ _ (no 2)).1, (hF.2.2.2.2 _ _ (no 5)).2]
    exact ⟨hs, hk, hn, hb, hg⟩
  have Lk : ∀ {h' : Hp}, Fk (sU u) h h' → LayU h' u := fun hF => L.fk hF (fun e => by unfold sU at e; omega)
  have exitA : ∀ (h' : Hp) (i : Nat), Fk (sU u) h h' → i ≤ 60 → hI h' u 3 = nI i → hI h' u 5 = nI k → hI h' u 6 = nI o → hI h' u 7 = nI (if d % 2 = 0 then 1 else 0) → (∀ a, a < i → hI h' (u + 1) a = nI (it f a t0)) → (∀ a c, a < c → c < i → it f a t0 ≠ it f c t0) → (∀ t, t < 60 → (∃ a, a < i ∧ it f a t0 = t ∧ hI h' (u + 2) t = nI a) ∨ ((∀ a, a < i → it f a t0 ≠ t) ∧ hI h' (u + 2) t = -1)) → (∀ a, a ≤ i → hI h' (u + 3) a = nI (cntN (fun a => J (it f a t0)) a)) → ¬ hI h' (u + 2) (it f i t0) = -1 → Ok (b_U_follow_157 u (nI (it f i t0)) h') (fun _ h' => Fk (sU u) h h' ∧ ∃ LL r, RepU h' u f J t0 k d o LL r) := by
    intro h' i hF hi e3 e5 e6 e7 eT eD eP eJ hne
    obtain ⟨l1, l2, l3, l4, l5, l6, l7, l8⟩ := Lk hF
    have hii := hit i
    unfold b_U_follow_157
    (try unfold QB); (try unfold QM); repeat (first | (with_reducible refine ok_lt ?_) | ((with_reducible refine ok_gd ?_ ?_); first | assumption | exact zb0 | exact zb1 | ((with_reducible apply ai_of) <;> first | assumption | omega | decide) | exact ai_lit (by assumption) (by decide) (by decide) (by decide)) | (refine ok_bR (by assumption) ?_))
    (try simp (disch := omega) only [nI_clamp, cl0, cl1, cl2, cl3, cl4, cl5, cl6, cl7, cl8])
    rcases eP (it f i t0) (by omega) with ⟨a, ha, hae, hav⟩ | ⟨-, q⟩
    · rw [hav]
      refine ok_bde (e_max (a := 0) (b := a) (by decide) (by omega)) ?_
      rw [Nat.max_eq_right (Nat.zero_le _)]
      (try unfold QB); (try unfold QM); repeat (first | (with_reducible refine ok_lt ?_) | ((with_reducible refine ok_gd ?_ ?_); first | assumption | exact zb0 | exact zb1 | ((with_reducible apply ai_of) <;> first | assumption | omega | decide) | exact ai_lit (by assumption) (by decide) (by decide) (by decide)) | (refine ok_bR (by assumption) ?_))
      refine ok_ret ⟨hF.trans (fk_uI (Or.inl ⟨rfl, by decide⟩)), i, a, ⟨ha, hae.symm, eD⟩, hi, ?_, hI_uIs, ?_, ?_, ?_, fun c hc => ?_, fun t ht => ?_, fun c hc => ?_⟩
      · rw [hI_uIk (by decide)]
        exact e3
      · rw [hI_uIk (by decide)]
        exact e5
      · rw [hI_uIk (by decide)]
        exact e6
      · rw [hI_uIk (by decide)]
        exact e7
      · rw [hI_uIa (by omega)]
        exact eT c hc
      · rw [hI_uIa (by omega)]
        exact eP t ht
      · rw [hI_uIa (by omega)]
        exact eJ c hc
    · exact absurd q hne
  have body : ∀ (s0 : Int32) (h2 : Hp), Fk (sU u) h h2 → s0 = nI (if d % 2 = 0 then 1 else 0) → hI h2 u 5 = nI k → hI h2 u 6 = nI o → Ok (b_U_follow_26 u wa (nI t0) s0 u h2) (fun _ h' => Fk (sU u) h h' ∧ ∃ LL r, RepU h' u f J t0 k d o LL r) := by
    intro s0 h2 hF2 hs0 q5 q6
    obtain ⟨l1, l2, l3, l4, l5, l6, l7, l8⟩ := Lk hF2
    unfold b_U_follow_26
    (try unfold QB); (try unfold QM); repeat (first | (with_reducible refine ok_lt ?_) | ((with_reducible refine ok_gd ?_ ?_); first | assumption | exact zb0 | exact zb1 | ((with_reducible apply ai_of) <;> first | assumption | omega | decide) | exact ai_lit (by assumption) (by decide) (by decide) (by decide)) | (refine ok_bR (by assumption) ?_))
    have hF3 : Fk (sU u) h (uI h2 u 7 s0) := hF2.trans (fk_uI (Or.inl ⟨rfl, by decide⟩))
    refine ok_bd (ok_mono (ok_fillI (N := 60) (h := uI h2 u 7 s0) l6 (by decide)) ?_)
    intro _ h4 hx
    obtain ⟨hF4', hfil⟩ := hx
    have hF4 : Fk (sU u) h h4 := hF3.trans (hF4'.mono (fun a k e => Or.inr (Or.inr (Or.inl e))))
    have g7 : hI h4 u 7 = nI (if d % 2 = 0 then 1 else 0) := by
      rw [(hF4'.2.2.2.2 u 7 (by omega)).1, hI_uIs, hs0]
    have g5 : hI h4 u 5 = nI k := by
      rw [(hF4'.2.2.2.2 u 5 (by omega)).1, hI_uIk (by decide), q5]
    have g6 : hI h4 u 6 = nI o := by
      rw [(hF4'.2.2.2.2 u 6 (by omega)).1, hI_uIk (by decide), q6]
    obtain ⟨l1, l2, l3, l4, l5, l6, l7, l8⟩ := Lk hF4
    (try unfold QB); (try unfold QM); repeat (first | (with_reducible refine ok_lt ?_) | ((with_reducible refine ok_gd ?_ ?_); first | assumption | exact zb0 | exact zb1 | ((with_reducible apply ai_of) <;> first | assumption | omega | decide) | exact ai_lit (by assumption) (by decide) (by decide) (by decide)) | (refine ok_bR (by assumption) ?_))
    refine ok_up 60 (fun i st h' => st = (u, wa, nI (it f i t0), nI i) ∧ Fk (sU u) h h' ∧ hI h' u 3 = nI i ∧ hI h' u 5 = nI k ∧ hI h' u 6 = nI o ∧ hI h' u 7 = nI (if d % 2 = 0 then 1 else 0) ∧ (∀ a, a < i → hI h' (u + 1) a = nI (it f a t0)) ∧ (∀ a c, a < c → c < i → it f a t0 ≠ it f c t0) ∧ (∀ t, t < 60 → (∃ a, a < i ∧ it f a t0 = t ∧ hI h' (u + 2) t = nI a) ∨ ((∀ a, a < i → it f a t0 ≠ t) ∧ hI h' (u + 2) t = -1)) ∧ (∀ a, a ≤ i → hI h' (u + 3) a = nI (cntN (fun a => J (it f a t0)) a))) ?_ FU 0 _ _ (Nat.zero_le _) ⟨rfl, hF4.trans (fk_uI (Or.inl ⟨rfl, by decide⟩)), hI_uIs, by rw [hI_uIk (by decide)]; exact g5, by rw [hI_uIk (by decide)]; exact g6, by rw [hI_uIk (by decide)]; exact g7, fun a ha => absurd ha (Nat.not_lt_zero _), fun a c _ hc => absurd hc (Nat.not_lt_zero _), fun t ht => Or.inr ⟨fun a ha => absurd ha (Nat.not_lt_zero _), by rw [hI_uIa (by omega)]; exact hfil t ht⟩, fun a ha => by rw [show a = 0 by omega, hI_uIa (by omega)]; exact l8⟩ (by show _ < 10000; omega)
    intro kk i st h' hi hI' kc
    obtain ⟨rfl, hF, e3, e5, e6, e7, eT, eD, eP, eJ⟩ := hI'
    show Ok (b_U_follow_48 kk u wa (nI (it f i t0)) (nI i) h') _
    have hii := hit i
    unfold b_U_follow_48
    have ex := exitA h' i hF hi e3 e5 e6 e7 eT eD eP eJ
    obtain ⟨l1, l2, l3, l4, l5, l6, l7, l8⟩ := Lk hF
    refine ok_it (a := 60) hi (by decide) (fun e => ex (fun q => ?_)) (fun hl => ?_)
    · rcases eP (it f i t0) (by omega) with ⟨a, ha, hae, hav⟩ | ⟨q2, -⟩
      · rw [hav] at q
        exact nI_nm1 (by omega) q
      · have := php n (i + 1) (fun a => it f a t0) (fun a _ => hit a) (fun a c hac hc => by
          by_cases e2 : c = i
          · rw [e2]
            exact q2 a (by omega)
          · exact eD a c hac (by omega))
        omega
    · (try unfold QB); (try unfold QM); repeat (first | (with_reducible refine ok_lt ?_) | ((with_reducible refine ok_gd ?_ ?_); first | assumption | exact zb0 | exact zb1 | ((with_reducible apply ai_of) <;> first | assumption | omega | decide) | exact ai_lit (by assumption) (by decide) (by decide) (by decide)) | (refine ok_bR (by assumption) ?_))
      (try simp (disch := omega) only [nI_clamp, cl0, cl1, cl2, cl3, cl4, cl5, cl6, cl7, cl8])
      refine ok_ite (fun q => ?_) (fun q => ex q)
      have q2 : ∀ a, a < i → it f a t0 ≠ it f i t0 := by
        rcases eP (it f i t0) (by omega) with ⟨a, ha, hae, hav⟩ | ⟨q2, -⟩
        · rw [hav] at q
          exact absurd q (nI_nm1 (by omega))
        · exact q2
      obtain ⟨w1, w2, w3, w4, w5⟩ := wk hF
      (try unfold QB); (try unfold QM); repeat (first | (with_reducible refine ok_lt ?_) | ((with_reducible refine ok_gd ?_ ?_); first | assumption | exact zb0 | exact zb1 | ((with_reducible apply ai_of) <;> first | assumption | omega | decide) | exact ai_lit (by assumption) (by decide) (by decide) (by decide)) | (refine ok_bR (by assumption) ?_))
      (try simp (disch := omega) only [nI_clamp, cl0, cl1, cl2, cl3, cl4, cl5, cl6, cl7, cl8])
      have eb : hI (uI (uI h' (u + 2) (it f i t0) (nI i)) (u + 1) i (nI (it f i t0))) wa 2 = nI b := by
        rw [hI_uIa (by omega), hI_uIa (by omega)]
        exact w4
      have ek : hI (uI (uI h' (u + 2) (it f i t0) (nI i)) (u + 1) i (nI (it f i t0))) wa 0 = nI k := by
        rw [hI_uIa (by omega), hI_uIa (by omega)]
        exact w2
      have en : hI (uI (uI h' (u + 2) (it f i t0) (nI i)) (u + 1) i (nI (it f i t0))) wa 1 = nI n := by
        rw [hI_uIa (by omega), hI_uIa (by omega)]
        exact w3
      rw [eb]
      refine ok_bde (e_W_way (h := uI (uI h' (u + 2) (it f i t0) (nI i)) (u + 1) i (nI (it f i t0))) w1 ek hk3) ?_
      rw [hfw]
      (try unfold QB); (try unfold QM); repeat (first | (with_reducible refine ok_lt ?_) | ((with_reducible refine ok_gd ?_ ?_); first | assumption | exact zb0 | exact zb1 | ((with_reducible apply ai_of) <;> first | assumption | omega | decide) | exact ai_lit (by assumption) (by decide) (by decide) (by decide)) | (refine ok_bR (by assumption) ?_))
      refine ok_bde (e_W_landing (h := uI (uI h' (u + 2) (it f i t0) (nI i)) (u + 1) i (nI (it f i t0))) w1 en hn2 hii hb2 fw) ?_
      (try unfold QB); (try unfold QM); repeat (first | (with_reducible refine ok_lt ?_) | ((with_reducible refine ok_gd ?_ ?_); first | assumption | exact zb0 | exact zb1 | ((with_reducible apply ai_of) <;> first | assumption | omega | decide) | exact ai_lit (by assumption) (by decide) (by decide) (by decide)) | (refine ok_bR (by assumption) ?_))
      (try simp (disch := omega) only [nI_clamp, cl0, cl1, cl2, cl3, cl4, cl5, cl6, cl7, cl8])
      have ej : hI (uI (uI h' (u + 2) (it f i t0) (nI i)) (u + 1) i (nI (it f i t0))) (u + 3) i = nI (cntN (fun a => J (it f a t0)) i) := by
        rw [hI_uIa (by omega), hI_uIa (by omega)]
        exact eJ i (Nat.le_refl _)
      rw [ej]
      have eg : hL (uI (uI h' (u + 2) (it f i t0) (nI i)) (u + 1) i (nI (it f i t0))) wa 5 = g := w5
      refine ok_bde (e_W_lacks (h := uI (uI h' (u + 2) (it f i t0) (nI i)) (u + 1) i (nI (it f i t0))) w1 (nx n fw b (it f i t0))) ?_
      rw [eg]
      have hcl := cnt_le (fun a => J (it f a t0)) i
      have hF5 : Fk (sU u) h (uI (uI h' (u + 2) (it f i t0) (nI i)) (u + 1) i (nI (it f i t0))) := (hF.trans (fk_uI (Or.inr (Or.inr (Or.inl rfl))))).trans (fk_uI (Or.inr (Or.inl rfl)))
      have hst : rs n g fw 2 (nx n fw b (it f i t0)) = it f (i + 1) t0 := by
        rw [← hf]
        rfl
      have hjj : gb g (nx n fw b (it f i t0)) = J (it f i t0) := by
        rw [← hJ]
        rfl
      have cont : ∀ y : Int32, y = nI (if J (it f i t0) = true then 1 else 0) → Ok (b_U_follow_129 kk u wa (nI i) (nI (nx n fw b (it f i t0))) y (nI (cntN (fun a => J (it f a t0)) i)) (nI i + 1) (u + 3) (uI (uI h' (u + 2) (it f i t0) (nI i)) (u + 1) i (nI (it f i t0)))) (fun _ h' => Fk (sU u) h h' ∧ ∃ LL r, RepU h' u f J t0 k d o LL r) := by
        intro y hy
        subst hy
        unfold b_U_follow_129
        rw [nI_1, nI_add]
        (try unfold QB); (try unfold QM); repeat (first | (with_reducible refine ok_lt ?_) | ((with_reducible refine ok_gd ?_ ?_); first | assumption | exact zb0 | exact zb1 | ((with_reducible apply ai_of) <;> first | assumption | omega | decide) | exact ai_lit (by assumption) (by decide) (by decide) (by decide)) | (refine ok_bR (by assumption) ?_))
        (try simp (disch := omega) only [nI_clamp, cl0, cl1, cl2, cl3, cl4, cl5, cl6, cl7, cl8])
        generalize hH : uI (uI (uI h' (u + 2) (it f i t0) (nI i)) (u + 1) i (nI (it f i t0))) (u + 3) (i + 1) (nI (cntN (fun a => J (it f a t0)) i + if J (it f i t0) = true then 1 else 0)) = H
        have hF6 : Fk (sU u) h H := by
          rw [← hH]
          exact hF5.trans (fk_uI (Or.inr (Or.inr (Or.inr ⟨rfl, by omega⟩))))
        obtain ⟨v1, v2, v3, v4, v5⟩ := wk hF6
        obtain ⟨l1, l2, l3, l4, l5, l6, l7, l8⟩ := Lk hF6
        (try unfold QB); (try unfold QM); repeat (first | (with_reducible refine ok_lt ?_) | ((with_reducible refine ok_gd ?_ ?_); first | assumption | exact zb0 | exact zb1 | ((with_reducible apply ai_of) <;> first | assumption | omega | decide) | exact ai_lit (by assumption) (by decide) (by decide) (by decide)) | (refine ok_bR (by assumption) ?_))
        refine ok_bde (e_W_way v1 v2 hk3) ?_
        rw [hfw]
        (try unfold QB); (try unfold QM); repeat (first | (with_reducible refine ok_lt ?_) | ((with_reducible refine ok_gd ?_ ?_); first | assumption | exact zb0 | exact zb1 | ((with_reducible apply ai_of) <;> first | assumption | omega | decide) | exact ai_lit (by assumption) (by decide) (by decide) (by decide)) | (refine ok_bR (by assumption) ?_))
        refine ok_bde (e_W_resting v1 v3 v5 hn2 (nx_lt hii hb2) fw) ?_
        rw [hst]
        (try unfold QB); (try unfold QM); repeat (first | (with_reducible refine ok_lt ?_) | ((with_reducible refine ok_gd ?_ ?_); first | assumption | exact zb0 | exact zb1 | ((with_reducible apply ai_of) <;> first | assumption | omega | decide) | exact ai_lit (by assumption) (by decide) (by decide) (by decide)) | (refine ok_bR (by assumption) ?_))
        refine kc _ _ hl ⟨rfl, hF6.trans (fk_uI (Or.inl ⟨rfl, by decide⟩)), hI_uIs, ?_, ?_, ?_, fun a ha => ?_, fun a c hac hc => ?_, fun t ht => ?_, fun a ha => ?_⟩
        · rw [hI_uIk (by decide), ← hH, hI_uIa (by omega), hI_uIa (by omega), hI_uIa (by omega)]
          exact e5
        · rw [hI_uIk (by decide), ← hH, hI_uIa (by omega), hI_uIa (by omega), hI_uIa (by omega)]
          exact e6
        · rw [hI_uIk (by decide), ← hH, hI_uIa (by omega), hI_uIa (by omega), hI_uIa (by omega)]
          exact e7
        · rw [hI_uIa (by omega), ← hH, hI_uIa (by omega)]
          by_cases e : a = i
          · rw [e, hI_uIs]
          · rw [hI_uIk e, hI_uIa (by omega)]
            exact eT a (by omega)
        · by_cases e : c = i
          · rw [e]
            exact q2 a (by omega)
          · exact eD a c hac (by omega)
        · rw [hI_uIa (by omega), ← hH, hI_uIa (by omega), hI_uIa (by omega)]
          by_cases e : t = it f i t0
          · rw [e, hI_uIs]
            exact Or.inl ⟨i, by omega, rfl, rfl⟩
          · rw [hI_uIk e]
            rcases eP t ht with ⟨a, ha, hae, hav⟩ | ⟨q3, q4⟩
            · exact Or.inl ⟨a, by omega, hae, hav⟩
            · refine Or.inr ⟨fun a ha => ?_, q4⟩
              by_cases e2 : a = i
              · rw [e2]
                exact fun e3 => e e3.symm
              · exact q3 a (by omega)
        · rw [hI_uIa (by omega), ← hH]
          by_cases e : a = i + 1
          · rw [e, hI_uIs]
            rfl
          · rw [hI_uIk e, hI_uIa (by omega), hI_uIa (by omega)]
            exact eJ a (by omega)
      rw [hjj]
      cases hc : J (it f i t0) with
      | false =>
        refine ok_t rfl (cont _ ?_)
        rw [hc]
        rfl
      | true =>
        refine ok_f (by decide) (cont _ ?_)
        rw [hc]
        rfl
  obtain ⟨l1, l2, l3, l4, l5, l6, l7, l8⟩ := id L
  unfold f_U_follow
  (try unfold QB); (try unfold QM); repeat (first | (with_reducible refine ok_lt ?_) | ((with_reducible refine ok_gd ?_ ?_); first | assumption | exact zb0 | exact zb1 | ((with_reducible apply ai_of) <;> first | assumption | omega | decide) | exact ai_lit (by assumption) (by decide) (by decide) (by decide)) | (refine ok_bR (by assumption) ?_))
  rw [hk]
  have hF2 : Fk (sU u) h (uI (uI h u 5 (nI k)) u 6 (nI o)) := (fk_uI (Or.inl ⟨rfl, by decide⟩)).trans (fk_uI (Or.inl ⟨rfl, by decide⟩))
  rw [pk_andN (by omega) (m := 1) 1 (by decide), show d % 2 ^ 1 = d % 2 from rfl]
  refine ok_ieq (b := 0) (by omega) (by decide) (fun c => body _ _ hF2 ?_ ?_ hI_uIs) (fun c => body _ _ hF2 ?_ ?_ hI_uIs)
  · rw [if_pos c]
    rfl
  · rw [hI_uIk (by decide), hI_uIs]
  · rw [if_neg c]
    rfl
  · rw [hI_uIk (by decide), hI_uIs]
end UF
