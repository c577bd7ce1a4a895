/-! orders of works at the class -/
def KX (h : Hp) (k o : Nat) (D : DD) (V : Nat → Nat) : Prop := LayK h k ∧ hR h k 5 = some o ∧ RepO h o D ∧ Wf D ∧ o + 15 ≤ k ∧ ∀ i, i < dN D → hI h (k + 1) i = oI (duN D V i)
def sKk (k a j : Nat) : Prop := (a = k ∧ (j = 3 ∨ j = 4)) ∨ a = k + 2 ∨ a = k + 3
def BRk (h : Hp) (k : Nat) (N : Nat) (b : BS) : Prop := b.1 ≤ 1000 ∧ hI h k 3 = xI b.1 ∧ hI h k 4 = b.2.1 ∧ ∀ i, i < N → 0 < b.1 → hI h (k + 3) i = nI (b.2.2.getD i 0)
theorem KX.fk {h h' : Hp} {k o : Nat} {D : DD} {V : Nat → Nat} (X : KX h k o D V) (F : Fk (sKk k) h h') : KX h' k o D V := by
  obtain ⟨l, h5, rO, W, ho, hd⟩ := X
  refine ⟨?_, by rw [F.2.2.2.1]; exact h5, rO.fk F (fun i j hi e => by unfold sKk at e; omega) W.1, W, ho, fun i hi => ?_⟩
  · unfold LayK
    rw [F.2.1, F.2.2.2.1]
    exact l
  · rw [(F.2.2.2.2 _ _ (fun e => by unfold sKk at e; omega)).1]
    exact hd i hi
theorem du_lt {D : DD} {V : Nat → Nat} {k n : Nat} (h : duN D V k = some n) : n ≤ 5000 := by
  rcases fd_cases (onW (wf D) D V (dTi D k)) 5000 1 with ⟨g1, _⟩ | ⟨n2, g1, g2, g3, _⟩
  · have h : fd (onW (wf D) D V (dTi D k)) 1 5000 = some n := h
    rw [g1] at h
    cases h
  · have h : fd (onW (wf D) D V (dTi D k)) 1 5000 = some n := h
    rw [g1] at h
    cases h
    omega
theorem ev_le {D : DD} {V : Nat → Nat} (W : Wf D) (p : List Nat) (hp : ∀ k, k ∈ p → k < dN D) : (evN D V p).1 ≤ 99 * p.length ∧ (evN D V p).2.1 ≤ 99 * p.length := by
  have g : ∀ (p : List Nat) (q : Nat × Nat × Int32), (∀ k, k ∈ p → k < dN D) → (p.foldl (estN D V) q).1 ≤ q.1 + 99 * p.length ∧ (p.foldl (estN D V) q).2.1 ≤ q.2.1 + 99 * p.length := by
    intro p
    induction p with
    | nil => intro q _; exact ⟨Nat.le_refl _, Nat.le_refl _⟩
    | cons k p ih =>
      intro q h1
      have hk := W.2.2.2.2.2.2.2.2.2.2.1 k (h1 k (by simp))
      obtain ⟨g1, g2⟩ := ih (estN D V q k) (fun j hj => h1 j (by simp [hj]))
      have e : (estN D V q k).1 ≤ q.1 + 99 ∧ (estN D V q k).2.1 ≤ q.2.1 + 99 := by
        unfold estN
        split
        · exact ⟨by show q.1 + dTk D k ≤ _; omega, by show q.2.1 + dWo D k ≤ _; omega⟩
        · exact ⟨by show q.1 + dTk D k ≤ _; omega, by show q.2.1 ≤ _; omega⟩
      show (p.foldl (estN D V) (estN D V q k)).1 ≤ _ ∧ (p.foldl (estN D V) (estN D V q k)).2.1 ≤ _
      rw [List.length_cons]
      omega
  have g := g p (0, 0, 0) hp
  unfold evN
  refine ⟨Nat.le_trans g.1 ?_, Nat.le_trans g.2 ?_⟩
  · show 0 + 99 * p.length ≤ _
    omega
  · show 0 + 99 * p.length ≤ _
    omega
theorem getD_app {p : List Nat} {k i : Nat} : (p ++ [k]).getD i 0 = if i = p.length then k else p.getD i 0 := by
  by_cases e : i = p.length
  · subst e
    rw [if_pos rfl]
    simp
  · rw [if_neg e]
    by_cases e2 : i < p.length
    · simp [List.getD, List.getElem?_append_left e2]
    · have : p.length < i := by omega
      simp [List.getD, List.getElem?_append_right (Nat.le_of_lt this), List.getElem?_eq_none (show p.length ≤ i by omega)]
      rw [List.getElem?_eq_none (by simp; omega)]
      rfl
set_option maxHeartbeats 1000000 in
theorem ok_K_extend {k o : Nat} {D : DD} {V : Nat → Nat} (r : Nat) : ∀ (n : Nat) (pre : List Nat) (used : Int32) (b : BS) (h : Hp), KX h k o D V → pre.length + r = dN D → r < n → (∀ j, j ∈ pre → j < dN D) → (∀ j, j < 32 → bt used j = pre.contains j) → (∀ i, i < pre.length → hI h (k + 2) i = nI (pre.getD i 0)) → BRk h k (dN D) b → Ok (f_K_extend_n n k (nI pre.length) used (nI (evN D V pre).1) (nI (evN D V pre).2.1) (evN D V pre).2.2 h) (fun _ h' => Fk (sKk k) h h' ∧ (∀ i, i < pre.length → hI h' (k + 2) i = nI (pre.getD i 0)) ∧ BRk h' k (dN D) ((pmN (dN D) r pre).foldl (bsN D V) b)) := by
  induction r with
  | zero =>
    intro n pre used b h X hlen hn hpre hbits hord hB
    obtain ⟨⟨l1, l2, l3, l4, l5, l6, l7⟩, h5, rO, W, ho, hd⟩ := id X
    have w3 := W.2.2.1
    obtain ⟨n, rfl⟩ : ∃ n', n = n' + 1 := ⟨n - 1, by omega⟩
    have hev := ev_le (V := V) W pre hpre
    show Ok (g_K_extend (f_K_extend_n n) k (nI pre.length) used (nI (evN D V pre).1) (nI (evN D V pre).2.1) (evN D V pre).2.2 h) _
    unfold g_K_extend
    have o1 := rO.1.1
    (try unfold QB); (try unfold QM); repeat (first | (with_reducible refine ok_lt ?_) | ((with_reducible refine ok_gd ?_ ?_); first | assumption | exact zb0 | exact zb1 | ((with_reducible apply ai_of) <;> first | assumption | omega | decide) | exact ai_lit (by assumption) (by decide) (by decide) (by decide)) | (refine ok_bR (by assumption) ?_))
    rw [rO.2.1.2.2.2.2.1]
    refine ok_t (nI_le (by omega) (by omega)) ?_
    unfold b_K_extend_16
    (try unfold QB); (try unfold QM); repeat (first | (with_reducible refine ok_lt ?_) | ((with_reducible refine ok_gd ?_ ?_); first | assumption | exact zb0 | exact zb1 | ((with_reducible apply ai_of) <;> first | assumption | omega | decide) | exact ai_lit (by assumption) (by decide) (by decide) (by decide)) | (refine ok_bR (by assumption) ?_))
    rw [hB.2.1]
    have hcmp : nI (evN D V pre).2.1 ≤ xI b.1 ↔ ¬ b.1 ≤ (evN D V pre).2.1 := by
      have hb1 := hB.1
      cases hb : b.1 with
      | zero =>
        rw [xI_0]
        refine ⟨fun g => absurd (Int32.lt_of_lt_of_le (show (-1 : Int32) < 0 by decide) (nI_pos' (n := (evN D V pre).2.1) (by omega))) (Int32.not_lt.mpr g), fun g => by omega⟩
      | succ b1 =>
        rw [xI_s, nI_leI (by omega) (by omega)]
        omega
    show Ok _ (fun _ h' => Fk (sKk k) h h' ∧ (∀ i, i < pre.length → hI h' (k + 2) i = nI (pre.getD i 0)) ∧ BRk h' k (dN D) (bsN D V b pre))
    refine ok_ite (fun c1 => ok_ret ⟨Fk.rf, hord, ?_⟩) (fun c1 => ?_)
    · unfold bsN
      rw [if_neg (hcmp.mp c1)]
      exact hB
    · have c2 : b.1 ≤ (evN D V pre).2.1 := Classical.byContradiction (fun g => c1 (hcmp.mpr g))
      (try unfold QB); (try unfold QM); repeat (first | (with_reducible refine ok_lt ?_) | ((with_reducible refine ok_gd ?_ ?_); first | assumption | exact zb0 | exact zb1 | ((with_reducible apply ai_of) <;> first | assumption | omega | decide) | exact ai_lit (by assumption) (by decide) (by decide) (by decide)) | (refine ok_bR (by assumption) ?_))
      refine ok_gd (cpok_T (n := 4) l6 l7 (by decide) (by decide) (by decide)) (ok_lt ?_)
      (try simp (disch := omega) only [nI_clamp, cl0, cl1, cl2, cl3, cl4, cl5, cl6, cl7, cl8])
      refine ok_ret ⟨?_, fun i hi => ?_, ?_⟩
      · exact ((fk_uI (Or.inl ⟨rfl, Or.inl rfl⟩)).trans (fk_uI (Or.inl ⟨rfl, Or.inr rfl⟩))).trans (fk_uC (fun j => Or.inr (Or.inr rfl)))
      · rw [hI_uC, if_neg (by omega), hI_uIa (by omega), hI_uIa (by omega)]
        exact hord i hi
      · unfold bsN
        rw [if_pos c2]
        refine ⟨by show (evN D V pre).2.1 + 1 ≤ 1000; omega, ?_, ?_, fun i hi _ => ?_⟩
        · rw [hI_uC, if_neg (by omega), hI_uIk (by decide), hI_uIs]
          rfl
        · rw [hI_uC, if_neg (by omega), hI_uIs]
        · rw [hI_uC, if_pos rfl, pk_cpy_in (Nat.zero_le _) (by omega), show 0 + (i - 0) = i by omega, hI_uIa (by omega), hI_uIa (by omega)]
          exact hord i (by omega)
  | succ r ih =>
    intro n pre used b h X hlen hn hpre hbits hord hB
    have W := X.2.2.2.1
    have w3 := W.2.2.1
    obtain ⟨n, rfl⟩ : ∃ n', n = n' + 1 := ⟨n - 1, by omega⟩
    have hev := ev_le (V := V) W pre hpre
    show Ok (g_K_extend (f_K_extend_n n) k (nI pre.length) used (nI (evN D V pre).1) (nI (evN D V pre).2.1) (evN D V pre).2.2 h) _
    unfold g_K_extend
    obtain ⟨⟨l1, l2, l3, l4, l5, l6, l7⟩, h5, rO, -, ho, hd⟩ := id X
    have o1 := rO.1.1
    (try unfold QB); (try unfold QM); repeat (first | (with_reducible refine ok_lt ?_) | ((with_reducible refine ok_gd ?_ ?_); first | assumption | exact zb0 | exact zb1 | ((with_reducible apply ai_of) <;> first | assumption | omega | decide) | exact ai_lit (by assumption) (by decide) (by decide) (by decide)) | (refine ok_bR (by assumption) ?_))
    rw [rO.2.1.2.2.2.2.1]
    refine ok_f (fun g => by have := (nI_leI (by omega) (by omega)).mp g; omega) (ok_t (nI_lt (b := 4) (by omega) (by decide)) (ok_lt ?_))
    clear l1 l2 l3 l4 l5 l6 l7 h5 rO ho hd o1
    refine ok_up (dN D) (fun i st h' => st = (k, nI pre.length, used, nI (evN D V pre).1, nI (evN D V pre).2.1, (evN D V pre).2.2, nI i) ∧ Fk (sKk k) h h' ∧ (∀ i, i < pre.length → hI h' (k + 2) i = nI (pre.getD i 0)) ∧ BRk h' k (dN D) ((llN (fun k => pmN (dN D) r (pre ++ [k])) pre i).foldl (bsN D V) b)) ?_ FU 0 _ _ (Nat.zero_le _) ⟨rfl, Fk.rf, hord, hB⟩ (by show _ < 10000; omega)
    intro kk i st h' hi hI' kc
    obtain ⟨rfl, hF, hord', hB'⟩ := hI'
    have X' := X.fk hF
    obtain ⟨⟨l1, l2, l3, l4, l5, l6, l7⟩, h5, rO, -, ho, hd⟩ := id X'
    obtain ⟨⟨o1, ⟨o2, o3, o4, o5, o6, o7, o8, o9, o10⟩, o11, o12, o13, o14, o15, o16⟩, ⟨p1, p2, p3, p4, p5, p6, p7⟩, oW, oX, oK, oE, oS⟩ := id rO
    have q3 := o13 3 (by decide) (by decide)
    have q4 := o13 4 (by decide) (by decide)
    show Ok (b_K_extend_55 (f_K_extend_n n) kk k (nI pre.length) used (nI (evN D V pre).1) (nI (evN D V pre).2.1) (evN D V pre).2.2 (nI i) h') _
    unfold b_K_extend_55 b_K_extend_172
    (try unfold QB); (try unfold QM); repeat (first | (with_reducible refine ok_lt ?_) | ((with_reducible refine ok_gd ?_ ?_); first | assumption | exact zb0 | exact zb1 | ((with_reducible apply ai_of) <;> first | assumption | omega | decide) | exact ai_lit (by assumption) (by decide) (by decide) (by decide)) | (refine ok_bR (by assumption) ?_))
    rw [p5]
    refine ok_it hi (by omega) (fun e => ok_ret ⟨hF, hord', by rw [e] at hB'; exact hB'⟩) (fun hl => ?_)
    have hs : llN (fun k => pmN (dN D) r (pre ++ [k])) pre (i + 1) = llN (fun k => pmN (dN D) r (pre ++ [k])) pre i ++ (if pre.contains i = true then [] else pmN (dN D) r (pre ++ [i])) := rfl
    refine ok_lt ?_
    refine ok_ite (fun c1 => ?_) (fun c1 => ?_)
    · have hc : pre.contains i = false := by
        rw [← hbits i (by omega)]
        exact (and_b0 used (by omega)).mp c1
      have hi4 : i < 4 := by omega
      have hp4 : pre.length < 4 := by omega
      have hnin : i ∉ pre := fun g => by
        rw [List.contains_iff_mem.mpr g] at hc
        cases hc
      (try unfold QB); (try unfold QM); repeat (first | (with_reducible refine ok_lt ?_) | ((with_reducible refine ok_gd ?_ ?_); first | assumption | exact zb0 | exact zb1 | ((with_reducible apply ai_of) <;> first | assumption | omega | decide) | exact ai_lit (by assumption) (by decide) (by decide) (by decide)) | (refine ok_bR (by assumption) ?_))
      (try simp (disch := omega) only [nI_clamp, cl0, cl1, cl2, cl3, cl4, cl5, cl6, cl7, cl8])
      have ok := oK i hl
      have hTk := W.2.2.2.2.2.2.2.2.2.2.1 i hl
      have gt : hI (uI h' (k + 2) pre.length (nI i)) (o + 3) i = nI (dTk D i) := by rw [hI_uIa (by omega)]; exact ok.1
      have gd' : hI (uI h' (k + 2) pre.length (nI i)) (k + 1) i = oI (duN D V i) := by rw [hI_uIa (by omega)]; exact hd i hl
      rw [gt, nI_add]
      (try unfold QB); (try unfold QM); repeat (first | (with_reducible refine ok_lt ?_) | ((with_reducible refine ok_gd ?_ ?_); first | assumption | exact zb0 | exact zb1 | ((with_reducible apply ai_of) <;> first | assumption | omega | decide) | exact ai_lit (by assumption) (by decide) (by decide) (by decide)) | (refine ok_bR (by assumption) ?_))
      (try simp (disch := omega) only [nI_clamp, cl0, cl1, cl2, cl3, cl4, cl5, cl6, cl7, cl8])
      rw [gd']
      have hF2 : Fk (sKk k) h (uI h' (k + 2) pre.length (nI i)) := hF.trans (fk_uI (Or.inr (Or.inl rfl)))
      have X2 := X.fk hF2
      have hB2 : BRk (uI h' (k + 2) pre.length (nI i)) k (dN D) ((llN (fun k => pmN (dN D) r (pre ++ [k])) pre i).foldl (bsN D V) b) := by
        obtain ⟨b0, b1, b2, b3⟩ := hB'
        exact ⟨b0, by rw [hI_uIa (by omega)]; exact b1, by rw [hI_uIa (by omega)]; exact b2, fun j hj h0 => by rw [hI_uIa (by omega)]; exact b3 j hj h0⟩
      have hord2 : ∀ j, j < (pre ++ [i]).length → hI (uI h' (k + 2) pre.length (nI i)) (k + 2) j = nI ((pre ++ [i]).getD j 0) := by
        intro j hj
        rw [getD_app]
        by_cases e : j = pre.length
        · rw [if_pos e, e, hI_uIs]
        · rw [if_neg e, hI_uIk e]
          rw [List.length_append] at hj
          exact hord' j (by simp at hj; omega)
      have hlen2 : (pre ++ [i]).length = pre.length + 1 := by simp
      have IH := ih n (pre ++ [i]) (used ||| ((1 : Int32) <<< (nI i &&& 31))) _ _ X2 (by rw [hlen2]; omega) (by omega) (fun j hj => by
        rcases List.mem_append.mp hj with g | g
        · exact hpre j g
        · rw [List.mem_singleton.mp g]
          exact hl) (fun j hj => by
        rw [bt_or _ _ hj, hbits j hj, bt_sl (by omega) hj]
        rw [Bool.eq_iff_iff]
        simp) hord2 hB2
      rw [ev_app, hlen2] at IH
      have go : ∀ (w : Int32) (s : Int32), w = nI (estN D V (evN D V pre) i).2.1 → s = (estN D V (evN D V pre) i).2.2 → Ok (b_K_extend_169 (f_K_extend_n n) kk k (nI pre.length) used (nI (evN D V pre).1) (nI (evN D V pre).2.1) (evN D V pre).2.2 (nI i) s w (nI ((evN D V pre).1 + dTk D i)) (used ||| ((1 : Int32) <<< (nI i &&& 31))) (nI pre.length + 1) k (uI h' (k + 2) pre.length (nI i))) (fun _ h' => Fk (sKk k) h h' ∧ (∀ i, i < pre.length → hI h' (k + 2) i = nI (pre.getD i 0)) ∧ BRk h' k (dN D) ((pmN (dN D) (r + 1) pre).foldl (bsN D V) b)) := by
        intro w s hw hs2
        unfold b_K_extend_169 b_K_extend_172
        have e1 : (estN D V (evN D V pre) i).1 = (evN D V pre).1 + dTk D i := by
          unfold estN
          split <;> rfl
        rw [nI_1, hw, hs2, ← e1]
        refine ok_gd X2.1.1 (ok_bd (ok_mono IH ?_))
        intro _ h3 hx3
        obtain ⟨hF3, hord3, hB3⟩ := hx3
        refine kc _ _ hl ⟨by rw [nI_1], hF2.trans hF3, fun j hj => ?_, ?_⟩
        · rw [hord3 j (by omega), getD_app, if_neg (by omega)]
        · rw [hs, hc, if_neg (by simp), List.foldl_append]
          exact hB3
      unfold b_K_extend_119 b_K_extend_154
      have hg : goodN D V i ((evN D V pre).1 + dTk D i) = match duN D V i with
        | none => false
        | some n => decide ((evN D V pre).1 + dTk D i ≤ n) := rfl
      have bad : goodN D V i ((evN D V pre).1 + dTk D i) = false → estN D V (evN D V pre) i = ((evN D V pre).1 + dTk D i, (evN D V pre).2.1, (evN D V pre).2.2) := fun g => by
        unfold estN
        rw [g]
        rfl
      have god : goodN D V i ((evN D V pre).1 + dTk D i) = true → estN D V (evN D V pre) i = ((evN D V pre).1 + dTk D i, (evN D V pre).2.1 + dWo D i, (evN D V pre).2.2 ||| ((1 : Int32) <<< (nI i &&& 31))) := fun g => by
        unfold estN
        rw [g]
        rfl
      cases hdu : duN D V i with
      | none =>
        rw [hdu] at hg
        refine ok_t (Int32.lt_of_lt_of_le (show (-2 : Int32) < 0 by decide) (nI_pos' (by omega))) (ok_t rfl (ok_t rfl ?_))
        exact go _ _ (by rw [bad hg]) (by rw [bad hg])
      | some dn =>
        rw [hdu] at hg
        have hdn := du_lt hdu
        have hg : goodN D V i ((evN D V pre).1 + dTk D i) = decide ((evN D V pre).1 + dTk D i ≤ dn) := hg
        show Ok (if nI dn < nI ((evN D V pre).1 + dTk D i) then _ else _) _
        refine ok_ilt (by omega) (by omega) (fun c2 => ok_t rfl (ok_t rfl ?_)) (fun c2 => ok_f (by decide) ?_)
        · rw [decide_eq_false (by omega)] at hg
          exact go _ _ (by rw [bad hg]) (by rw [bad hg])
        · rw [decide_eq_true c2] at hg
          (try unfold QB); (try unfold QM); repeat (first | (with_reducible refine ok_lt ?_) | ((with_reducible refine ok_gd ?_ ?_); first | assumption | exact zb0 | exact zb1 | ((with_reducible apply ai_of) <;> first | assumption | omega | decide) | exact ai_lit (by assumption) (by decide) (by decide) (by decide)) | (refine ok_bR (by assumption) ?_))
          (try simp (disch := omega) only [nI_clamp, cl0, cl1, cl2, cl3, cl4, cl5, cl6, cl7, cl8])
          have gw : hI (uI h' (k + 2) pre.length (nI i)) (o + 4) i = nI (dWo D i) := by rw [hI_uIa (by omega)]; exact ok.2.1
          rw [gw, nI_add]
          exact ok_f (by decide) (go _ _ (by rw [god hg]) (by rw [god hg]))
    · have hc : pre.contains i = true := by
        rw [← hbits i (by omega)]
        cases e : bt used i with
        | true => rfl
        | false => exact absurd ((and_b0 used (by omega)).mpr e) c1
      refine kc _ _ hl ⟨by rw [nI_1], hF, hord', ?_⟩
      rw [hs, hc, if_pos rfl, List.append_nil]
      exact hB'
