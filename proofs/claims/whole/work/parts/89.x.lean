/-! the class's reader: the whole text, to its end -/
def GE (X : TX) (c c' : CU) : Prop := c'.1 = 0 → c.1 = 0 ∧ (c.2 ≤ X.2 → c.2 ≤ c'.2 ∧ c'.2 ≤ X.2)
section GEs
variable {X : TX} {N : NN} {c c' c'' : CU}
theorem ge_r : GE X c c := fun z => ⟨z, fun h => ⟨Nat.le_refl _, h⟩⟩
theorem ge_t (p : GE X c c') (q : GE X c' c'') : GE X c c'' := fun z => by
  obtain ⟨q1, q2⟩ := q z
  obtain ⟨p1, p2⟩ := p q1
  refine ⟨p1, fun h => ?_⟩
  obtain ⟨a, b⟩ := p2 h
  obtain ⟨d, e⟩ := q2 b
  exact ⟨by omega, e⟩
theorem ge_S : GE X c (cS X c) := fun z => by
  have z0 := cS_z z
  refine ⟨z0, fun h => ?_⟩
  rw [cS_0 z0]
  have := nxt_b h
  exact ⟨this.1, this.2.1⟩
theorem ge_C {b : Bool} {f : Nat} (hf : f ≠ 0) : GE X c (cCk b f c) := fun z => by
  obtain ⟨a, -, e⟩ := cCk_z hf z
  rw [e]
  exact ge_r a
theorem ge_P {k : Nat} : GE X c (cP X k c) := ge_t (ge_C (by decide)) ge_S
theorem ge_H {lo hi : Nat} : GE X c (cH X lo hi c) := fun z => by
  obtain ⟨a, -, -, -, e⟩ := cH_z z
  rw [e]
  exact ge_r a
theorem ge_W {lo hi : Nat} : GE X c (cW X lo hi c) := ge_t ge_H ge_S
theorem ge_K {s : Nat} : GE X c (cK X N s c) := ge_t (ge_C (by decide)) (ge_C (by decide))
theorem ge_T : GE X c (cT X N c) := ge_t (ge_C (by decide)) (ge_C (by decide))
theorem ge_D : GE X c (cD X c) := ge_C (by decide)
theorem ge_fp {f : Nat} {s : DD × CU} : GE X s.2 (fpart X N f s).2 := ge_t ge_K (ge_t (ge_C (by decide)) (ge_t ge_S (ge_t ge_P ge_W)))
theorem ge_it {f : Nat} {s : DD × CU} : ∀ n, GE X s.2 (itn (fnext X N f) n s).2 := by
  intro n
  induction n with
  | zero => exact ge_r
  | succ n ih => exact ge_t ih (ge_t ge_S (ge_fp (s := ((itn (fnext X N f) n s).1, cS X (itn (fnext X N f) n s).2))))
theorem ge_line {s : LSt} : GE X s.2.2.2 (line X s).2.2.2 := by
  by_cases q0 : s.2.2.2.1 ≠ 0
  · unfold line
    rw [if_pos q0]
    exact ge_r
  have e0 : s.2.2.2 = (0, s.2.2.2.2) := Prod.ext (by omega) rfl
  unfold line
  rw [if_neg q0, e0]
  repeat' split
  · exact ge_t (ge_C (by decide)) (ge_t ge_S (ge_t ge_P (ge_t ge_W (ge_t ge_P ge_W))))
  · exact ge_t (ge_C (by decide)) (ge_t (ge_C (by decide)) (ge_t ge_S (ge_t ge_T (ge_t ge_S (ge_t ge_D (ge_t ge_S (ge_t ge_P (ge_t ge_W (ge_t ge_P (ge_t ge_W (ge_t ge_P ge_W)))))))))))
  · exact ge_t (ge_C (by decide)) (ge_t ge_S (ge_t ge_K (ge_t (ge_C (by decide)) (ge_t (ge_C (by decide)) (ge_t ge_S (ge_t ge_H (ge_t (ge_C (by decide)) ge_S)))))))
  · obtain ⟨n, -, hn2, -⟩ := run_ex (fnext X s.2.2.1 (dF s.1)) (fmore X) 1000 (fpart X s.2.2.1 (dF s.1) (s.1, f2 X s.1 s.2.2.1 s.2.1 s.2.2.2.2))
    show GE X (0, s.2.2.2.2) (fall X s.1 s.2.2.1 s.2.1 s.2.2.2.2).2
    rw [show fall X s.1 s.2.2.1 s.2.1 s.2.2.2.2 = itn (fnext X s.2.2.1 (dF s.1)) n (fpart X s.2.2.1 (dF s.1) (s.1, f2 X s.1 s.2.2.1 s.2.1 s.2.2.2.2)) from hn2]
    exact ge_t (ge_t (ge_C (by decide)) (ge_t (ge_C (by decide)) (ge_t ge_S (ge_t ge_T ge_S)))) (ge_t (ge_fp (s := (s.1, f2 X s.1 s.2.2.1 s.2.1 s.2.2.2.2))) (ge_it n))
  · exact ge_t (ge_C (by decide)) (ge_t (ge_C (by decide)) (ge_t ge_S (ge_t ge_T (ge_t ge_S (ge_t ge_P (ge_t ge_W (ge_t ge_P (ge_t ge_W (ge_t ge_P (ge_t ge_K ge_S))))))))))
  · exact ge_t (ge_C (by decide)) (ge_t ge_S (ge_t ge_K (ge_t (ge_C (by decide)) (ge_t ge_S (ge_t ge_P (ge_t ge_W (ge_t ge_P ge_W)))))))
  · exact ge_t (ge_C (by decide)) (ge_t (ge_C (by decide)) (ge_t ge_S (ge_t ge_K (ge_t (ge_C (by decide)) ge_S))))
  · exact ge_t (ge_C (by decide)) (ge_t (ge_C (by decide)) (ge_t ge_S (ge_t ge_P (ge_t ge_H (ge_t (ge_C (by decide)) ge_S)))))
  · exact ge_t (ge_C (by decide)) (ge_t (ge_C (by decide)) (ge_t ge_S (ge_t ge_P (ge_t ge_H (ge_t (ge_C (by decide)) ge_S)))))
  · exact fun z => absurd z (cF_ne (by decide))
/-- n lines behind the first need n bytes -/
theorem itn_lb {s : LSt} (hs : s.2.2.2.1 = 0 → s.2.2.2.2 ≤ X.2) : ∀ n, (∀ k, k < n → lmore X (itn (lnext X) k s) = true) → (itn (lnext X) n s).2.2.2.1 = 0 → n ≤ (itn (lnext X) n s).2.2.2.2 ∧ (itn (lnext X) n s).2.2.2.2 ≤ X.2 := by
  intro n
  induction n with
  | zero => intro _ z; exact ⟨Nat.zero_le _, hs z⟩
  | succ n ih =>
    intro hm z
    have m := of_decide_eq_true (hm n (by omega))
    obtain ⟨i1, i2⟩ := ih (fun k hk => hm k (by omega)) m.1
    have l := tS_lt (X := X) (a := (itn (lnext X) n s).2.2.2.2) (by omega)
    have g := ge_line (X := X) (s := ((itn (lnext X) n s).1, (itn (lnext X) n s).2.1, (itn (lnext X) n s).2.2.1, cS X (itn (lnext X) n s).2.2.2)) z
    have e : (cS X (itn (lnext X) n s).2.2.2).2 = nxt X (itn (lnext X) n s).2.2.2.2 := by rw [cS_0 m.1]
    have b := nxt_b i2
    have b3 := b.2.2 l
    have g2 := g.2 (by show (cS X (itn (lnext X) n s).2.2.2).2 ≤ X.2; rw [e]; exact b.2.1)
    have g3 : (cS X (itn (lnext X) n s).2.2.2).2 ≤ (itn (lnext X) (n + 1) s).2.2.2.2 := g2.1
    rw [e] at g3
    exact ⟨by omega, g2.2⟩
end GEs
section RX
variable {h0 h h' : Hp} {x o a n : Nat} {T : Nat → Int32}
theorem ok_R_read (LR : LayRd h (x + 2)) (s1 : hS h (x + 1) = some (.inr (2, 900))) (LO : LayO h o) (ho : o = x + 6 ∨ o = x + 21) (hn : n ≤ 900) (hT : ∀ p, p < n → hI h (x + 1) p = T p) (hB : BT T n) : Ok (f_R_read (x + 2) (x + 1) (nI n) o h) (fun r h' => Fr (SY x o) h h' ∧ r = nI (lend (T, n) (lall (T, n))).1 ∧ (lend (T, n) (lall (T, n))).1 < 8 ∧ ((lend (T, n) (lall (T, n))).1 ≠ 0 → hI h' (x + 2) 5 = nI (lend (T, n) (lall (T, n))).2) ∧ ((lend (T, n) (lall (T, n))).1 = 0 → RdO h' o (lall (T, n)).1 ∧ WfR (lall (T, n)).1 (lall (T, n)).2.1 (lall (T, n)).2.2.1 ∧ 0 < dW (lall (T, n)).1) ∧ LayRd h' (x + 2) ∧ LayO h' o) := by
  have k1 := LR.1
  unfold f_R_read
  refine ok_gd k1 (ok_lt (ok_bR (al_of (by exact s1)) (ok_bde e_Math_min ?_)))
  rw [show (if Int32.ofNat 900 < nI n then Int32.ofNat 900 else nI n) = nI n from if_neg (nI_nlt (a := 900) hn (by decide))]
  refine ok_gd (by exact k1) (ok_lt (ok_gd (by exact k1) (ok_lt ?_)))
  have FA : Fr (fun a k => a = x + 2 ∧ k ≤ 2) h (uR (uI (uR h (x + 2) 0 (some (x + 1))) (x + 2) 1 (nI n)) (x + 2) 2 (some o)) := ((fr_uR ⟨rfl, by omega⟩).trans (fr_uI ⟨rfl, by omega⟩)).trans (fr_uR ⟨rfl, by omega⟩)
  have a0 : hR (uR (uI (uR h (x + 2) 0 (some (x + 1))) (x + 2) 1 (nI n)) (x + 2) 2 (some o)) (x + 2) 0 = some (x + 1) := by rw [hR_uRk (by decide), hR_uI, hR_uRs]
  have a1 : hI (uR (uI (uR h (x + 2) 0 (some (x + 1))) (x + 2) 1 (nI n)) (x + 2) 2 (some o)) (x + 2) 1 = nI n := by rw [hI_uR, hI_uIs]
  have a2 : hR (uR (uI (uR h (x + 2) 0 (some (x + 1))) (x + 2) 1 (nI n)) (x + 2) 2 (some o)) (x + 2) 2 = some o := hR_uRs
  generalize uR (uI (uR h (x + 2) 0 (some (x + 1))) (x + 2) 1 (nI n)) (x + 2) 2 (some o) = h6 at *
  have L6 : LayO h6 o := LO.fr FA (fun i k hi => by omega)
  have k6 : hS h6 (x + 2) = some (.inl 1) := by rw [FA.2.1]; exact k1
  refine ok_gd k6 (ok_bR a2 (ok_gd L6.1 (ok_bd (ok_mono (ok_O_clear L6) ?_))))
  intro _ h8 hx
  obtain ⟨F8, L8, r8⟩ := hx
  have k8 : hS h8 (x + 2) = some (.inl 1) := by rw [F8.2.1]; exact k6
  refine ok_gd ⟨zb0, k8⟩ (ok_lt (ok_gd (by exact k8) (ok_lt (ok_gd (by exact k8) (ok_lt (ok_gd (by exact k8) (ok_lt (ok_gd (by exact k8) (ok_lt ?_)))))))))
  have FC : Fr (fun a k => a = x + 2 ∧ 3 ≤ k ∧ k ≤ 12) h8 (uI (uI (uI (uI (uI h8 (x + 2) 3 0) (x + 2) 4 0) (x + 2) 5 (-1)) (x + 2) 7 0) (x + 2) 12 0) := by
    refine Fr.trans (Fr.trans (Fr.trans (Fr.trans ?_ (fr_uI ?_)) (fr_uI ?_)) (fr_uI ?_)) (fr_uI ?_)
    · exact fr_uI ⟨rfl, by omega, by omega⟩
    all_goals exact ⟨rfl, by omega, by omega⟩
  have c3 : hI (uI (uI (uI (uI (uI h8 (x + 2) 3 0) (x + 2) 4 0) (x + 2) 5 (-1)) (x + 2) 7 0) (x + 2) 12 0) (x + 2) 3 = 0 := by rw [hI_uIk (by decide), hI_uIk (by decide), hI_uIk (by decide), hI_uIk (by decide), hI_uIs]
  have c4 : hI (uI (uI (uI (uI (uI h8 (x + 2) 3 0) (x + 2) 4 0) (x + 2) 5 (-1)) (x + 2) 7 0) (x + 2) 12 0) (x + 2) 4 = 0 := by rw [hI_uIk (by decide), hI_uIk (by decide), hI_uIk (by decide), hI_uIs]
  have c7 : hI (uI (uI (uI (uI (uI h8 (x + 2) 3 0) (x + 2) 4 0) (x + 2) 5 (-1)) (x + 2) 7 0) (x + 2) 12 0) (x + 2) 7 = nI 0 := by rw [hI_uIk (by decide), hI_uIs]; rfl
  have c12 : hI (uI (uI (uI (uI (uI h8 (x + 2) 3 0) (x + 2) 4 0) (x + 2) 5 (-1)) (x + 2) 7 0) (x + 2) 12 0) (x + 2) 12 = nI 0 := hI_uIs
  generalize uI (uI (uI (uI (uI h8 (x + 2) 3 0) (x + 2) 4 0) (x + 2) 5 (-1)) (x + 2) 7 0) (x + 2) 12 0 = h14 at *
  have FT : Fr (SY x o) h h14 := ((FA.mono (fun a k e => by unfold SY; omega)).trans (F8.mono (fun a k e => by unfold SO at e; unfold SY; omega))).trans (FC.mono (fun a k e => by unfold SY; omega))
  have L14 : LayO h14 o := L8.fr FC (fun i k hi => by omega)
  have r14 : RdO h14 o D0 := r8.fr FC (fun i k hi => by omega) (by decide)
  have nr : ∀ k, hR h14 (x + 2) k = hR h6 (x + 2) k ∨ (3 ≤ k ∧ k ≤ 12) := fun k => by
    by_cases q : 3 ≤ k ∧ k ≤ 12
    · exact Or.inr q
    · exact Or.inl (((FC.2.2.2 _ _ (by omega)).2.2).trans (F8.2.2.2 _ _ (by unfold SO; omega)).2.2)
  have K14 : RK h14 x o (T, n) := by
    refine ⟨?_, ?_, ?_, ?_, hn, fun p hp => ?_, hB, ?_, L14, ho⟩
    · obtain ⟨m1, m2, m3, m4, m5⟩ := LR
      have e : ∀ k, 13 ≤ k → hR h14 (x + 2) k = hR h (x + 2) k := fun k hk => (FT.2.2.2 _ _ (by unfold SY; omega)).2.2
      unfold LayRd
      rw [FT.2.1, e 13 (by omega), e 14 (by omega), e 15 (by omega)]
      exact ⟨m1, m2, m3, m4, m5⟩
    · rcases nr 0 with q | q
      · rw [q]; exact a0
      · omega
    · rw [FT.2.1]; exact s1
    · rw [(FC.2.2.2 _ _ (by omega)).1, (F8.2.2.2 _ _ (by unfold SO; omega)).1]; exact a1
    · rw [(FT.2.2.2 _ _ (by unfold SY; omega)).1]; exact hT p hp
    · rcases nr 2 with q | q
      · rw [q]; exact a2
      · omega
  refine ok_gd K14.1.1 (ok_bd (ok_mono (ok_R_step (b := 0) K14 (Nat.zero_le _) c7) ?_))
  intro _ h15 hx
  obtain ⟨F15, -, t15⟩ := hx
  have K15 := K14.st F15
  generalize hX : ((T, n) : TX) = X at *
  have hXn : X.2 ≤ 900 := by rw [← hX]; exact hn
  have C15 : CL h15 x o X D0 false N0 (0, rn isS X 0) := by
    refine ⟨K15, ⟨?_, by show 0 < 8; decide, fun z => absurd rfl z, _, t15, fun _ => rfl⟩, ⟨⟨0, by decide, ?_⟩, fun _ => ⟨?_, by decide, fun k hk => absurd hk (Nat.not_lt_zero _)⟩⟩, ⟨0, by decide, ?_⟩, fun _ => ⟨r14.fr F15 (fun i k hi => by unfold ST; omega) (by decide), ?_⟩⟩
    · rw [(F15.2.2.2 _ _ (by unfold ST; omega)).1]; exact c4
    · rw [(F15.2.2.2 _ _ (by unfold ST; omega)).1]; exact c12
    · rw [(F15.2.2.2 _ _ (by unfold ST; omega)).1]; exact c12
    · rw [(F15.2.2.2 _ _ (by unfold ST; omega)).1]; exact r14.1.2.1.2.2.2.2.2.2
    · rw [(F15.2.2.2 _ _ (by unfold ST; omega)).1]; exact c3
  refine ok_gd K15.1.1 (ok_bd (ok_mono (ok_R_line C15 wf_0) ?_))
  intro _ h17 hx
  obtain ⟨F17, C17⟩ := hx
  have FT17 : Fr (SY x o) h h17 := (FT.trans (F15.mono (fun a k e => by unfold ST at e; unfold SY; omega))).trans (F17.mono (fun _ _ e => SX_SY e))
  have hlall : lall X = run (lnext X) (lmore X) 1000 (line X (D0, false, N0, (0, rn isS X 0))) := rfl
  have hW0 : (line X (D0, false, N0, (0, rn isS X 0))).2.2.2.1 = 0 → WfR (line X (D0, false, N0, (0, rn isS X 0))).1 (line X (D0, false, N0, (0, rn isS X 0))).2.1 (line X (D0, false, N0, (0, rn isS X 0))).2.2.1 := fun z => wf_line (s := (D0, false, N0, (0, rn isS X 0))) wf_0 z
  generalize line X (D0, false, N0, (0, rn isS X 0)) = s0 at *
  have hs0b : s0.2.2.2.1 = 0 → s0.2.2.2.2 ≤ X.2 := fun z => by
    obtain ⟨-, -, -, t, tt, te⟩ := C17.2.1
    rw [← te z]
    exact tt.1
  refine ok_lt (ok_up X.2 (fun i st h' => st = (x + 2, nI i) ∧ Fr (SY x o) h h' ∧ CL h' x o X (itn (lnext X) i s0).1 (itn (lnext X) i s0).2.1 (itn (lnext X) i s0).2.2.1 (itn (lnext X) i s0).2.2.2 ∧ ∀ k, k < i → lmore X (itn (lnext X) k s0) = true) ?_ FU 0 _ _ (Nat.zero_le _) ⟨rfl, FT17, C17, fun k hk => absurd hk (Nat.not_lt_zero _)⟩ (by show _ < 10000; omega))
  intro k i st hh hi hI' kk
  obtain ⟨rfl, FH, CH, hm⟩ := hI'
  show Ok (b_R_read_63 k (x + 2) (nI i) hh) _
  have RH := CH.rs
  have ex : lmore X (itn (lnext X) i s0) = false → Ok (b_R_read_101 (x + 2) hh) (fun r h' => Fr (SY x o) h h' ∧ r = nI (lend X (lall X)).1 ∧ (lend X (lall X)).1 < 8 ∧ ((lend X (lall X)).1 ≠ 0 → hI h' (x + 2) 5 = nI (lend X (lall X)).2) ∧ ((lend X (lall X)).1 = 0 → RdO h' o (lall X).1 ∧ WfR (lall X).1 (lall X).2.1 (lall X).2.2.1 ∧ 0 < dW (lall X).1) ∧ LayRd h' (x + 2) ∧ LayO h' o) := by
    intro hno
    have ef : lall X = itn (lnext X) i s0 := by
      rw [hlall]
      exact run_it _ _ i 1000 s0 (by omega) hm hno
    have wf := wf_itn (X := X) hW0 i hm
    rw [ef]
    generalize itn (lnext X) i s0 = s at *
    have fin : ∀ h9 c9, RS hh h9 x o X c9 → c9 = lend X s → ∀ r, r = hI h9 (x + 2) 4 → Fr (SY x o) h h9 ∧ r = nI (lend X s).1 ∧ (lend X s).1 < 8 ∧ ((lend X s).1 ≠ 0 → hI h9 (x + 2) 5 = nI (lend X s).2) ∧ ((lend X s).1 = 0 → RdO h9 o s.1 ∧ WfR s.1 s.2.1 s.2.2.1 ∧ 0 < dW s.1) ∧ LayRd h9 (x + 2) ∧ LayO h9 o := by
      intro h9 c9 R9 e9 r hr
      subst e9
      refine ⟨FH.trans (R9.fx.mono (fun _ _ e => SX_SY e)), by rw [hr]; exact R9.2.2.1, R9.2.2.2.1, R9.2.2.2.2.1, fun z => ?_, R9.2.1.1, R9.2.1.2.2.2.2.2.2.2.2.1⟩
      obtain ⟨z1, z2, z3⟩ := cCk_z (by decide) z
      obtain ⟨z4, z5, z6⟩ := cCk_z (by decide) z1
      have wz := wf z4
      have ob := R9.2.1.ob.1
      exact ⟨(CH.2.2.2.2 z4).1.sq (x := x) (R9.1.mono (fun _ _ e => SR_SQ e)) ob (nB wz), wz, by have := of_decide_eq_true z2; omega⟩
    have go117 : ∀ h8 c8, RS hh h8 x o X c8 → c8 = cCk (decide (tS X s.2.2.2.2 = 0)) 1 s.2.2.2 → Ok (b_R_read_117 (x + 2) h8) (fun r h' => Fr (SY x o) h h' ∧ r = nI (lend X s).1 ∧ (lend X s).1 < 8 ∧ ((lend X s).1 ≠ 0 → hI h' (x + 2) 5 = nI (lend X s).2) ∧ ((lend X s).1 = 0 → RdO h' o s.1 ∧ WfR s.1 s.2.1 s.2.2.1 ∧ 0 < dW s.1) ∧ LayRd h' (x + 2) ∧ LayO h' o) := by
      intro h8 c8 R8 e8
      obtain ⟨ob8, s8, r8⟩ := R8.2.1.ob
      unfold b_R_read_117
      refine ok_gd R8.s (ok_bR r8 (ok_gd s8 (ok_lt ?_)))
      by_cases z : c8.1 = 0
      · have z4 : s.2.2.2.1 = 0 := by rw [e8] at z; exact (cCk_z (by decide) z).1
        have wz := wf z4
        have W5 := nB wz
        have rd := (CH.2.2.2.2 z4).1.sq (x := x) (R8.1.mono (fun _ _ e => SR_SQ e)) ob8 W5
        rw [rd.1.2.1.2.2.1]
        refine ok_ieq (b := 0) (by omega) (by decide) (fun g => ?_) (fun g => ?_)
        · refine k_at R8 rfl (by decide) (by decide) (fun h9 R9 => ok_gd R9.s (ok_lt (ok_ret (fin h9 _ R9 ?_ _ rfl))))
          unfold lend
          rw [← e8]
          unfold cCk
          rw [decide_eq_false (fun q => q g)]
          rfl
        · refine ok_gd R8.s (ok_lt (ok_ret (fin h8 _ R8 ?_ _ rfl)))
          unfold lend
          rw [← e8]
          unfold cCk
          rw [decide_eq_true g]
          rfl
      · have el : c8 = lend X s := by
          unfold lend
          rw [← e8, cCk_n z]
        refine ok_ite (fun g => ?_) (fun g => ok_gd R8.s (ok_lt (ok_ret (fin h8 _ R8 el _ rfl))))
        exact k_atn R8 z rfl (by decide) (by decide) (fun h9 R9 => ok_gd R9.s (ok_lt (ok_ret (fin h9 _ R9 el _ rfl))))
    unfold b_R_read_101
    refine ok_gd RH.s (ok_lt ?_)
    by_cases z : s.2.2.2.1 = 0
    · have t := RH.z (c := s.2.2.2) z
      have b5 := tS_le (X := X) (a := s.2.2.2.2)
      rw [t.2.2.2.1]
      refine ok_ieq (b := 0) (by omega) (by decide) (fun g => go117 hh _ RH ?_) (fun g => k_at RH rfl (by decide) (by decide) (fun h9 R9 => go117 h9 _ R9 ?_))
      · unfold cCk
        rw [decide_eq_true g]
        rfl
      · unfold cCk
        rw [decide_eq_false g]
        rfl
    · refine ok_ite (fun g => go117 hh _ RH (cCk_n z).symm) (fun g => k_atn RH z rfl (by decide) (by decide) (fun h9 R9 => go117 h9 _ R9 (cCk_n z).symm))
  unfold b_R_read_63
  have k10 := RH.2.1.2.2.2.1
  refine ok_gd RH.s (ok_lt ?_)
  rw [k10]
  refine ok_ile (by omega) (by omega) (fun g => ex ?_) (fun g => ?_)
  · refine decide_eq_false (fun q => ?_)
    obtain ⟨b1, b2⟩ := itn_lb (X := X) hs0b i hm q.1
    have := tS_lt (X := X) (a := (itn (lnext X) i s0).2.2.2.2) (by omega)
    omega
  · refine ok_gd RH.s (ok_lt (k_ft RH (fun z => ?_) (fun z => ex (decide_eq_false (fun q => z q.1)))))
    refine ok_gd RH.s (ok_lt ?_)
    have t := RH.z (c := (itn (lnext X) i s0).2.2.2) z
    rw [t.2.2.2.1]
    have b5 := tS_le (X := X) (a := (itn (lnext X) i s0).2.2.2.2)
    refine ok_ieq (b := 3) (by omega) (by decide) (fun e => ?_) (fun e => ex (decide_eq_false (fun q => e q.2)))
    have mo : lmore X (itn (lnext X) i s0) = true := decide_eq_true ⟨z, e⟩
    have wz := wf_itn (X := X) hW0 i hm z
    refine k_step RH (fun h9 R9 _ => ?_)
    obtain ⟨F9, C9⟩ := CH.rs2 R9 (fun _ => z) (fun _ => nB wz)
    have ec : cS X (itn (lnext X) i s0).2.2.2 = (0, nxt X (itn (lnext X) i s0).2.2.2.2) := cS_0 z
    have C9' := C9
    rw [ec] at C9'
    refine ok_gd R9.s (ok_bd (ok_mono (ok_R_line C9' wz) ?_))
    intro _ h10 hx
    obtain ⟨F10, C10⟩ := hx
    rw [nI_1]
    rw [← ec] at C10
    refine kk _ _ g ⟨rfl, (FH.trans (F9.mono (fun _ _ e => SX_SY e))).trans (F10.mono (fun _ _ e => SX_SY e)), C10, fun k hk => ?_⟩
    by_cases w : k = i
    · rw [w]; exact mo
    · exact hm k (by omega)
end RX
