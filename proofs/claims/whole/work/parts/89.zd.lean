/-! the reference's reader: a line, the whole text -/
section G7
variable {h0 h h' h1 : Hp} {m q a : Nat} {X : TX} {c c' c1 : CU} {N : NN} {D : DD} {br : Bool}
theorem GL.cx {D' : DD} {br' : Bool} {N' : NN} (C : GL h m q X D' br' N' c) (e : c = c') : GL h m q X D' br' N' c' := by rw [← e]; exact C
theorem ok_m_line (C : GL h m q X D br N (0, a)) (W : WfR D br N) : Ok (f_m_readLine m h) (fun _ h' => Fr (SZ m q) h h' ∧ GL h' m q X (line X (D, br, N, (0, a))).1 (line X (D, br, N, (0, a))).2.1 (line X (D, br, N, (0, a))).2.2.1 (line X (D, br, N, (0, a))).2.2.2) := by
  have R := C.gs
  have hs := R.s
  have wr : ∀ k, k < 24 → 0 < k → f_m_isWord m k h = some (bI (isW X k a), h) := fun k h1 h2 => by
    have := e_m_isWord R h1 h2
    rw [show decide (((0, a) : CU).1 = 0) = true from rfl, Bool.true_and] at this
    exact this
  unfold f_m_readLine
  refine ok_gd hs (ok_bde (wr 1 (by decide) (by decide)) (ok_ib (fun g1 => ?_) (fun g1 => ?_)))
  · rw [line_n g1]
    refine ok_gd hs (ok_bde (wr 4 (by decide) (by decide)) (ok_ib (fun g4 => ?_) (fun g4 => ?_)))
    · rw [g4]
      refine ok_gd hs (ok_bde (wr 5 (by decide) (by decide)) (ok_ib (fun g5 => ?_) (fun g5 => ?_)))
      · rw [g5]
        refine ok_gd hs (ok_bde (wr 6 (by decide) (by decide)) (ok_ib (fun g6 => ?_) (fun g6 => ?_)))
        · rw [g6]
          refine ok_gd hs (ok_bde (wr 7 (by decide) (by decide)) (ok_ib (fun g7 => ?_) (fun g7 => ?_)))
          · rw [g7]
            refine ok_gd hs (ok_bde (wr 8 (by decide) (by decide)) (ok_ib (fun g8 => ?_) (fun g8 => ?_)))
            · rw [g8]
              refine ok_gd hs (ok_bde (wr 9 (by decide) (by decide)) (ok_ib (fun g9 => ?_) (fun g9 => ?_)))
              · rw [g9]
                refine ok_gd hs (ok_bde (wr 10 (by decide) (by decide)) (ok_ib (fun g10 => ?_) (fun g10 => ?_)))
                · rw [g10]
                  refine ok_gd hs (ok_bde (wr 11 (by decide) (by decide)) (ok_ib (fun g11 => ?_) (fun g11 => ?_)))
                  · rw [g11]
                    exact j_flaw R rfl (by decide) (by decide) (fun h1 R1 => ok_ret (R1.er (cF_ne (by decide))))
                  · rw [g11]
                    exact ok_gd hs (ok_bd (ok_mono (ok_m_seen (v := 0) C W (isW_5 g11)) (fun _ h1 hx => ok_ret hx)))
                · rw [g10]
                  exact ok_gd hs (ok_bd (ok_mono (ok_m_seen (v := 1) C W (isW_5 g10)) (fun _ h1 hx => ok_ret hx)))
              · rw [if_neg (by decide), if_neg (by decide), if_neg (by decide), if_neg (by decide), if_neg (by decide), if_pos g9]
                exact ok_gd hs (ok_bd (ok_mono (ok_m_suspect C W g9) (fun _ h1 hx => ok_ret hx)))
            · rw [if_neg (by decide), if_neg (by decide), if_neg (by decide), if_neg (by decide), if_pos g8]
              exact ok_gd hs (ok_bd (ok_mono (ok_m_sky C W g8) (fun _ h1 hx => ok_ret hx)))
          · rw [if_neg (by decide), if_neg (by decide), if_neg (by decide), if_pos g7]
            exact ok_gd hs (ok_bd (ok_mono (ok_m_work C W g7) (fun _ h1 hx => ok_ret hx)))
        · rw [if_neg (by decide), if_neg (by decide), if_pos g6]
          exact ok_gd hs (ok_bd (ok_mono (ok_m_feast C W g6) (fun _ h1 hx => ok_ret hx)))
      · rw [if_neg (by decide), if_pos g5]
        exact ok_gd hs (ok_bd (ok_mono (ok_m_gone C W g5) (fun _ h1 hx => ok_ret hx)))
    · rw [if_pos g4]
      exact ok_gd hs (ok_bd (ok_mono (ok_m_wheel C W g4) (fun _ h1 hx => ok_ret hx)))
  · rw [line_1 g1]
    exact ok_gd hs (ok_bd (ok_mono (ok_m_brass C W g1) (fun _ h1 hx => ok_ret hx)))
theorem ok_m_all (C : GL h m q X D0 false N0 (0, rn isS X 0)) : Ok (f_m_readAll m h) (fun _ h' => Fr (SZ m q) h h' ∧ GK h' m q X ∧ GC h' m X (lend X (lall X)) ∧ ((lend X (lall X)).1 = 0 → RdQ h' q (lall X).1 (lall X).2.1 ∧ WfR (lall X).1 (lall X).2.1 (lall X).2.2.1 ∧ 0 < dW (lall X).1)) := by
  have hXn := C.1.2.2.2.2.2.1
  unfold f_m_readAll
  have hlall : lall X = run (lnext X) (lmore X) 1000 (line X (D0, false, N0, (0, rn isS X 0))) := rfl
  have hW0 : (line X (D0, false, N0, (0, rn isS X 0))).2.2.2.1 = 0 → WfR (line X (D0, false, N0, (0, rn isS X 0))).1 (line X (D0, false, N0, (0, rn isS X 0))).2.1 (line X (D0, false, N0, (0, rn isS X 0))).2.2.1 := fun z => wf_line (s := (D0, false, N0, (0, rn isS X 0))) wf_0 z
  have hge := ge_line (X := X) (s := (D0, false, N0, (0, rn isS X 0)))
  have b0 := (rn_b (P := isS) (X := X) (p := 0) (Nat.zero_le _)).2
  generalize hs0 : line X (D0, false, N0, (0, rn isS X 0)) = s0 at *
  have hs0b : s0.2.2.2.1 = 0 → s0.2.2.2.2 ≤ X.2 := fun z => ((hge z).2 b0).2
  refine ok_lt (ok_up (X.2 + 2) (fun i st h' => Fr (SZ m q) h h' ∧ ((∃ p : LSt, st = (m, 1) ∧ p.2.2.2.1 = 0 ∧ line X p = itn (lnext X) i s0 ∧ (∀ k, k < i → lmore X (itn (lnext X) k s0) = true) ∧ GL h' m q X p.1 p.2.1 p.2.2.1 p.2.2.2 ∧ WfR p.1 p.2.1 p.2.2.1) ∨ (st = (m, 0) ∧ GL h' m q X (lall X).1 (lall X).2.1 (lall X).2.2.1 (lall X).2.2.2 ∧ ((lall X).2.2.2.1 = 0 → WfR (lall X).1 (lall X).2.1 (lall X).2.2.1)))) ?_ FU 0 _ _ (Nat.zero_le _) ⟨Fr.rf, Or.inl ⟨(D0, false, N0, (0, rn isS X 0)), rfl, rfl, hs0, fun k hk => absurd hk (Nat.not_lt_zero _), C, wf_0⟩⟩ (by show _ < 10000; omega))
  intro k i st h1 hi hI' kk
  obtain ⟨F1, hA | hB⟩ := hI'
  · obtain ⟨p, rfl, pz, hp, hm, C1, W1⟩ := hA
    show Ok (b_m_readAll_2 k m 1 h1) _
    unfold b_m_readAll_2
    have ep : p = (p.1, p.2.1, p.2.2.1, (0, p.2.2.2.2)) := Prod.ext rfl (Prod.ext rfl (Prod.ext rfl (Prod.ext pz rfl)))
    have C1' : GL h1 m q X p.1 p.2.1 p.2.2.1 (0, p.2.2.2.2) := C1.cx (Prod.ext pz rfl)
    refine ok_f (by decide) (ok_gd C1.1.1 (ok_bd (ok_mono (ok_m_line C1' W1) ?_)))
    intro _ h4 hx
    rw [← ep, hp] at hx
    obtain ⟨F4, C4⟩ := hx
    have R4 := C4.gs
    refine j_eats 3 R4 (by decide) rfl (fun h6 y1 y2 R6 => ?_) (fun y => ?_)
    · have mo : lmore X (itn (lnext X) i s0) = true := decide_eq_true ⟨y1, y2⟩
      obtain ⟨c1', c2'⟩ := itn_lb (X := X) hs0b i hm y1
      obtain ⟨P4, Q4⟩ := C4.2.2 y1
      refine kk _ _ (by omega) ⟨(F1.trans F4).trans R6.fx, Or.inl ⟨((itn (lnext X) i s0).1, (itn (lnext X) i s0).2.1, (itn (lnext X) i s0).2.2.1, cS X (itn (lnext X) i s0).2.2.2), rfl, ?_, rfl, fun k hk => ?_, ⟨R6.2.1, R6.2.2, fun _ => ⟨P4.gs R6, Q4.gs R6⟩⟩, wf_itn (X := X) hW0 i hm y1⟩⟩
      · show (cS X (itn (lnext X) i s0).2.2.2).1 = 0
        rw [cS_0 y1]
      · by_cases w : k = i
        · rw [w]; exact mo
        · exact hm k (by omega)
    · have hno : lmore X (itn (lnext X) i s0) = false := decide_eq_false (fun z => y z.1 z.2)
      have hi2 : i ≤ X.2 := by
        cases i with
        | zero => exact Nat.zero_le _
        | succ i =>
          have z := of_decide_eq_true (hm i (by omega))
          obtain ⟨c1', c2'⟩ := itn_lb (X := X) hs0b i (fun k hk => hm k (by omega)) z.1
          have := tS_lt (X := X) (a := (itn (lnext X) i s0).2.2.2.2) (by omega)
          omega
      have ef : lall X = itn (lnext X) i s0 := by
        rw [hlall]
        exact run_it _ _ i 1000 s0 (by omega) hm hno
      refine kk _ _ (by omega) ⟨F1.trans F4, Or.inr ⟨rfl, by rw [ef]; exact C4, fun z => ?_⟩⟩
      rw [ef] at z ⊢
      exact wf_itn (X := X) hW0 i hm z
  · obtain ⟨rfl, C1, wf⟩ := hB
    show Ok (b_m_readAll_2 k m 0 h1) _
    unfold b_m_readAll_2
    have R1 := C1.gs
    generalize lall X = s at *
    have go32 : ∀ h8 c8, GS h1 h8 m q X c8 → c8 = cCk (decide (tS X s.2.2.2.2 = 0)) 1 s.2.2.2 → Ok (b_m_readAll_32 m h8) (fun _ h' => Fr (SZ m q) h h' ∧ GK h' m q X ∧ GC h' m X (lend X s) ∧ ((lend X s).1 = 0 → RdQ h' q s.1 s.2.1 ∧ WfR s.1 s.2.1 s.2.2.1 ∧ 0 < dW s.1)) := by
      intro h8 c8 R8 e8
      have fin : ∀ h9, GS h1 h9 m q X (lend X s) → Fr (SZ m q) h h9 ∧ GK h9 m q X ∧ GC h9 m X (lend X s) ∧ ((lend X s).1 = 0 → RdQ h9 q s.1 s.2.1 ∧ WfR s.1 s.2.1 s.2.2.1 ∧ 0 < dW s.1) := by
        intro h9 R9
        refine ⟨F1.trans R9.fx, R9.2.1, R9.2.2, fun z => ?_⟩
        obtain ⟨z1, z2, z3⟩ := cCk_z (by decide) z
        obtain ⟨z4, z5, z6⟩ := cCk_z (by decide) z1
        exact ⟨(C1.2.2 z4).2.gs R9, wf z4, by have := of_decide_eq_true z2; omega⟩
      unfold b_m_readAll_32
      refine ok_gd R8.s (ok_bR R8.h4 (ok_gd R8.lq.1 (ok_lt ?_)))
      by_cases z : c8.1 = 0
      · have z4 : s.2.2.2.1 = 0 := by rw [e8] at z; exact (cCk_z (by decide) z).1
        have W5 := nB (wf z4)
        have rd := (C1.2.2 z4).2.gs R8
        rw [rd.2.1.2.2.1]
        refine ok_ieq (b := 0) (by omega) (by decide) (fun g => ?_) (fun g => ?_)
        · refine j_flaw R8 rfl (by decide) (by decide) (fun h9 R9 => ok_ret (fin h9 ?_))
          unfold lend
          rw [← e8]
          unfold cCk
          rw [decide_eq_false (fun y => y g)]
          exact R9
        · refine ok_ret (fin h8 ?_)
          unfold lend
          rw [← e8]
          unfold cCk
          rw [decide_eq_true g]
          exact R8
      · have el : c8 = lend X s := by
          unfold lend
          rw [← e8, cCk_n z]
        refine ok_ite (fun g => j_flaw R8 rfl (by decide) (by decide) (fun h9 R9 => ok_ret (fin h9 ?_))) (fun g => ok_ret (fin h8 (by rw [← el]; exact R8)))
        rw [cF_n z] at R9
        rw [← el]
        exact R9
    refine ok_t rfl (ok_gd R1.s (ok_lt (j_so (n := 0) R1 (by decide) rfl (fun g y => go32 h1 _ R1 ?_) (fun g => j_flaw R1 rfl (by decide) (by decide) (fun h9 R9 => go32 h9 _ R9 ?_)))))
    · unfold cCk
      rw [decide_eq_true y]
      rfl
    · by_cases z : s.2.2.2.1 = 0
      · unfold cCk
        rw [decide_eq_false (g z)]
        rfl
      · rw [cCk_n z, cF_n z]
end G7
