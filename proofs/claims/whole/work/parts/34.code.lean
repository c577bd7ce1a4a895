noncomputable def b_m_bestOf_66 (k5 : (Nat × Int32 × Int32 × Int32 × Int32) → Hp → Option (Int32 × Hp)) (v0 : Nat) (v1 : Int32) (v2 : Int32) (v3 : Int32) (v4 : Int32) (h : Hp) : Option (Int32 × Hp) := k5 (v0, v1, v2, v3, v4 + 1) h
set_option maxHeartbeats 4000000 in
set_option maxRecDepth 20000 in
theorem tb_m_bestOf_66 {G : GG} {k5 : (Nat × Int32 × Int32 × Int32 × Int32) → Hp → Option (Int32 × Hp)} (hk5 : ∀ s h, T G M_m_bestOf 0 cI 5 [(0, .ref s.1), (1, .int s.2.1), (2, .int s.2.2.1), (3, .int s.2.2.2.1), (4, .int s.2.2.2.2)] [] h (k5 s h)) (v0 : Nat) (v1 : Int32) (v2 : Int32) (v3 : Int32) (v4 : Int32) (h : Hp) : T G M_m_bestOf 0 cI 66 [(0, .ref v0), (1, .int v1), (2, .int v2), (3, .int v3), (4, .int v4)] [] h (b_m_bestOf_66 k5 v0 v1 v2 v3 v4 h) := by
  unfold b_m_bestOf_66
  refine q_iinc (pc := 66) (v := (1)) (ls' := [(4, .int (v4 + 1)), (0, .ref v0), (1, .int v1), (2, .int v2), (3, .int v3)]) (dq D_m_bestOf_0_ok 38 rfl) 4 rfl (by decide) rfl rfl ?_
  refine q_goto (pc := 69) 5 (dq D_m_bestOf_0_ok 39 rfl) rfl ?_
  exact T.lsub [1, 2, 3, 4, 0] rfl (hk5 (v0, v1, v2, v3, v4 + 1) h)
noncomputable def b_m_bestOf_58 (k5 : (Nat × Int32 × Int32 × Int32 × Int32) → Hp → Option (Int32 × Hp)) (v0 : Nat) (v1 : Int32) (v2 : Int32) (v4 : Int32) (h : Hp) : Option (Int32 × Hp) := gd (hS h v0 = some (.inl 11)) (bR (hR h v0 32) fun x1 => gd (ai h x1 0 v4) (lt (hI h x1 v4.toNatClampNeg) fun x2 => b_m_bestOf_66 k5 v0 v1 v2 x2 v4 h))
set_option maxHeartbeats 4000000 in
set_option maxRecDepth 20000 in
theorem tb_m_bestOf_58 {G : GG} {k5 : (Nat × Int32 × Int32 × Int32 × Int32) → Hp → Option (Int32 × Hp)} (hk5 : ∀ s h, T G M_m_bestOf 0 cI 5 [(0, .ref s.1), (1, .int s.2.1), (2, .int s.2.2.1), (3, .int s.2.2.2.1), (4, .int s.2.2.2.2)] [] h (k5 s h)) (v0 : Nat) (v1 : Int32) (v2 : Int32) (v4 : Int32) (h : Hp) : T G M_m_bestOf 0 cI 58 [(0, .ref v0), (1, .int v1), (2, .int v2), (4, .int v4)] [] h (b_m_bestOf_58 k5 v0 v1 v2 v4 h) := by
  unfold b_m_bestOf_58
  refine q_aload_n (pc := 58) (dq D_m_bestOf_0_ok 33 rfl) rfl 0 rfl ?_
  refine q_getR (pc := 59) (dq D_m_bestOf_0_ok 34 rfl) fa_m_48 rfl (fun x1 => ?_)
  refine q_iload (pc := 62) (dq D_m_bestOf_0_ok 35 rfl) 3 rfl ?_
  refine r_iald (pc := 64) (dq D_m_bestOf_0_ok 36 rfl) (fun x2 => ?_)
  refine q_istore_n (pc := 65) (ls' := [(3, .int x2), (0, .ref v0), (1, .int v1), (2, .int v2), (4, .int v4)]) (dq D_m_bestOf_0_ok 37 rfl) rfl rfl rfl ?_
  exact T.lsub [1, 2, 3, 0, 4] rfl (tb_m_bestOf_66 hk5 v0 v1 v2 x2 v4 h)
noncomputable def b_m_bestOf_5 (k5 : (Nat × Int32 × Int32 × Int32 × Int32) → Hp → Option (Int32 × Hp)) (v0 : Nat) (v1 : Int32) (v2 : Int32) (v3 : Int32) (v4 : Int32) (h : Hp) : Option (Int32 × Hp) := if (v1 + 3) ≤ v4 then (some (v3, h)) else (gd (hS h v0 = some (.inl 11)) (bR (hR h v0 32) fun x1 => gd (ai h x1 0 v4) (lt (hI h x1 v4.toNatClampNeg) fun x2 => if x2 = ((-1)) then (b_m_bestOf_66 k5 v0 v1 v2 v3 v4 h) else (if v3 = ((-1)) then (b_m_bestOf_58 k5 v0 v1 v2 v4 h) else (if v2 = 0 then (gd (hS h v0 = some (.inl 11)) (bR (hR h v0 32) fun x3 => gd (ai h x3 0 v4) (lt (hI h x3 v4.toNatClampNeg) fun x4 => if x4 ≤ v3 then (b_m_bestOf_66 k5 v0 v1 v2 v3 v4 h) else (b_m_bestOf_58 k5 v0 v1 v2 v4 h)))) else (gd (hS h v0 = some (.inl 11)) (bR (hR h v0 32) fun x5 => gd (ai h x5 0 v4) (lt (hI h x5 v4.toNatClampNeg) fun x6 => if v3 ≤ x6 then (b_m_bestOf_66 k5 v0 v1 v2 v3 v4 h) else (b_m_bestOf_58 k5 v0 v1 v2 v4 h)))))))))
set_option maxHeartbeats 4000000 in
set_option maxRecDepth 20000 in
theorem tb_m_bestOf_5 {G : GG} {k5 : (Nat × Int32 × Int32 × Int32 × Int32) → Hp → Option (Int32 × Hp)} (hk5 : ∀ s h, T G M_m_bestOf 0 cI 5 [(0, .ref s.1), (1, .int s.2.1), (2, .int s.2.2.1), (3, .int s.2.2.2.1), (4, .int s.2.2.2.2)] [] h (k5 s h)) (v0 : Nat) (v1 : Int32) (v2 : Int32) (v3 : Int32) (v4 : Int32) (h : Hp) : T G M_m_bestOf 0 cI 5 [(0, .ref v0), (1, .int v1), (2, .int v2), (3, .int v3), (4, .int v4)] [] h (b_m_bestOf_5 k5 v0 v1 v2 v3 v4 h) := by
  unfold b_m_bestOf_5
  refine q_iload (pc := 5) (dq D_m_bestOf_0_ok 4 rfl) 4 rfl ?_
  refine q_iload_n (pc := 7) (dq D_m_bestOf_0_ok 5 rfl) rfl 1 rfl ?_
  refine q_ic3 (pc := 8) (dq D_m_bestOf_0_ok 6 rfl) ?_
  refine q_iadd (pc := 9) (dq D_m_bestOf_0_ok 7 rfl) ?_
  refine q_ic_ge (pc := 10) 72 (dq D_m_bestOf_0_ok 8 rfl) rfl ?_ ?_
  · refine q_iload_n (pc := 72) (dq D_m_bestOf_0_ok 40 rfl) rfl 3 rfl ?_
    exact r_reti (pc := 73) (dq D_m_bestOf_0_ok 41 rfl) rfl
  · refine q_aload_n (pc := 13) (dq D_m_bestOf_0_ok 9 rfl) rfl 0 rfl ?_
    refine q_getR (pc := 14) (dq D_m_bestOf_0_ok 10 rfl) fa_m_48 rfl (fun x1 => ?_)
    refine q_iload (pc := 17) (dq D_m_bestOf_0_ok 11 rfl) 4 rfl ?_
    refine r_iald (pc := 19) (dq D_m_bestOf_0_ok 12 rfl) (fun x2 => ?_)
    refine q_icm1 (pc := 20) (dq D_m_bestOf_0_ok 13 rfl) ?_
    refine q_ic_eq (pc := 21) 66 (dq D_m_bestOf_0_ok 14 rfl) rfl ?_ ?_
    · exact T.lsub [0, 1, 2, 3, 4] rfl (tb_m_bestOf_66 hk5 v0 v1 v2 v3 v4 h)
    · refine q_iload_n (pc := 24) (dq D_m_bestOf_0_ok 15 rfl) rfl 3 rfl ?_
      refine q_icm1 (pc := 25) (dq D_m_bestOf_0_ok 16 rfl) ?_
      refine q_ic_eq (pc := 26) 58 (dq D_m_bestOf_0_ok 17 rfl) rfl ?_ ?_
      · exact T.lsub [0, 1, 2, 4] rfl (tb_m_bestOf_58 hk5 v0 v1 v2 v4 h)
      · refine q_iload_n (pc := 29) (dq D_m_bestOf_0_ok 18 rfl) rfl 2 rfl ?_
        refine p_if_eq (pc := 30) 47 (dq D_m_bestOf_0_ok 19 rfl) rfl ?_ ?_
        · refine q_aload_n (pc := 47) (dq D_m_bestOf_0_ok 27 rfl) rfl 0 rfl ?_
          refine q_getR (pc := 48) (dq D_m_bestOf_0_ok 28 rfl) fa_m_48 rfl (fun x3 => ?_)
          refine q_iload (pc := 51) (dq D_m_bestOf_0_ok 29 rfl) 4 rfl ?_
          refine r_iald (pc := 53) (dq D_m_bestOf_0_ok 30 rfl) (fun x4 => ?_)
          refine q_iload_n (pc := 54) (dq D_m_bestOf_0_ok 31 rfl) rfl 3 rfl ?_
          refine q_ic_le (pc := 55) 66 (dq D_m_bestOf_0_ok 32 rfl) rfl ?_ ?_
          · exact T.lsub [0, 1, 2, 3, 4] rfl (tb_m_bestOf_66 hk5 v0 v1 v2 v3 v4 h)
          · exact T.lsub [0, 1, 2, 4] rfl (tb_m_bestOf_58 hk5 v0 v1 v2 v4 h)
        · refine q_aload_n (pc := 33) (dq D_m_bestOf_0_ok 20 rfl) rfl 0 rfl ?_
          refine q_getR (pc := 34) (dq D_m_bestOf_0_ok 21 rfl) fa_m_48 rfl (fun x5 => ?_)
          refine q_iload (pc := 37) (dq D_m_bestOf_0_ok 22 rfl) 4 rfl ?_
          refine r_iald (pc := 39) (dq D_m_bestOf_0_ok 23 rfl) (fun x6 => ?_)
          refine q_iload_n (pc := 40) (dq D_m_bestOf_0_ok 24 rfl) rfl 3 rfl ?_
          refine q_ic_ge (pc := 41) 66 (dq D_m_bestOf_0_ok 25 rfl) rfl ?_ ?_
          · exact T.lsub [0, 1, 2, 3, 4] rfl (tb_m_bestOf_66 hk5 v0 v1 v2 v3 v4 h)
          · refine q_goto (pc := 44) 58 (dq D_m_bestOf_0_ok 26 rfl) rfl ?_
            exact T.lsub [0, 1, 2, 4] rfl (tb_m_bestOf_58 hk5 v0 v1 v2 v4 h)
noncomputable def l_m_bestOf_5 : Nat → (Nat × Int32 × Int32 × Int32 × Int32) → Hp → Option (Int32 × Hp) := lp (fun k5 s h => b_m_bestOf_5 k5 s.1 s.2.1 s.2.2.1 s.2.2.2.1 s.2.2.2.2 h)
set_option maxHeartbeats 4000000 in
set_option maxRecDepth 20000 in
theorem tl_m_bestOf_5 {G : GG} (n : Nat) (s : Nat × Int32 × Int32 × Int32 × Int32) (h : Hp) : T G M_m_bestOf 0 cI 5 [(0, .ref s.1), (1, .int s.2.1), (2, .int s.2.2.1), (3, .int s.2.2.2.1), (4, .int s.2.2.2.2)] [] h (l_m_bestOf_5 n s h) :=
  T.loop (lsOf := fun s => [(0, .ref s.1), (1, .int s.2.1), (2, .int s.2.2.1), (3, .int s.2.2.2.1), (4, .int s.2.2.2.2)]) (fun k5 hk5 s h => tb_m_bestOf_5 hk5 s.1 s.2.1 s.2.2.1 s.2.2.2.1 s.2.2.2.2 h) n s h
noncomputable def f_m_bestOf (v0 : Nat) (v1 : Int32) (v2 : Int32) (h : Hp) : Option (Int32 × Hp) := lt ((-1) : Int32) fun y1 => l_m_bestOf_5 FU (v0, v1, v2, y1, v1) h
set_option maxHeartbeats 4000000 in
set_option maxRecDepth 20000 in
theorem t_m_bestOf {G : GG} (v0 : Nat) (v1 : Int32) (v2 : Int32) (h : Hp) : Mt G M_m_bestOf 0 [.ref v0, .int v1, .int v2] cI h (f_m_bestOf v0 v1 v2 h) := by
  refine Mt.ofF (by decide +kernel) rfl (Rt.i rfl rfl) ?_
  show T G M_m_bestOf 0 cI 0 [(0, .ref v0), (1, .int v1), (2, .int v2)] [] h _
  unfold f_m_bestOf
  refine q_icm1 (pc := 0) (dq D_m_bestOf_0_ok 0 rfl) ?_
  refine r_nmI (fun y1 => ?_)
  refine q_istore_n (pc := 1) (ls' := [(3, .int y1), (0, .ref v0), (1, .int v1), (2, .int v2)]) (dq D_m_bestOf_0_ok 1 rfl) rfl rfl rfl ?_
  refine q_iload_n (pc := 2) (dq D_m_bestOf_0_ok 2 rfl) rfl 2 rfl ?_
  refine q_istore (pc := 3) (ls' := [(4, .int v1), (3, .int y1), (0, .ref v0), (1, .int v1), (2, .int v2)]) (dq D_m_bestOf_0_ok 3 rfl) rfl rfl ?_
  exact T.lsub [2, 3, 4, 1, 0] rfl (tl_m_bestOf_5 FU (v0, v1, v2, y1, v1) h)
noncomputable def b_m_argues_132 (k91 : (Nat × Int32 × Int32) → Hp → Option (Unit × Hp)) (k103 : (Nat × Int32 × Int32 × Int32) → Hp → Option (Unit × Hp)) (v0 : Nat) (v3 : Int32) (v4 : Int32) (v5 : Int32) (s0 : Int32) (s1 : Int32) (s2 : Nat) (s3 : Int32) (s4 : Nat) (h : Hp) : Option (Unit × Hp) := gd (hS h s2 = some (.inl 11)) (bd (f_m_bestOf s2 s1 s0 h) fun r2 h1 => gd (ai h1 s4 0 s3) (lt (uI h1 s4 s3.toNatClampNeg r2) fun h3 => k103 (v0, v3, v4, v5 + 1) h3))
set_option maxHeartbeats 4000000 in
set_option maxRecDepth 20000 in
theorem tb_m_argues_132 {G : GG} {k91 : (Nat × Int32 × Int32) → Hp → Option (Unit × Hp)} (hk91 : ∀ s h, T G M_m_argues 4 cU 91 [(0, .ref s.1), (3, .int s.2.1), (4, .int s.2.2)] [] h (k91 s h)) {k103 : (Nat × Int32 × Int32 × Int32) → Hp → Option (Unit × Hp)} (hk103 : ∀ s h, T G M_m_argues 4 cU 103 [(0, .ref s.1), (3, .int s.2.1), (4, .int s.2.2.1), (5, .int s.2.2.2)] [] h (k103 s h)) (v0 : Nat) (v3 : Int32) (v4 : Int32) (v5 : Int32) (s0 : Int32) (s1 : Int32) (s2 : Nat) (s3 : Int32) (s4 : Nat) (h : Hp) : T G M_m_argues 4 cU 132 [(0, .ref v0), (3, .int v3), (4, .int v4), (5, .int v5)] [.int s0, .int s1, .ref s2, .int s3, .ref s4] h (b_m_argues_132 k91 k103 v0 v3 v4 v5 s0 s1 s2 s3 s4 h) := by
  unfold b_m_argues_132
  refine r_invI (Mc := M_m_bestOf) (pc := 132) (ci := 11) (rest := [.int s3, .ref s4]) 0 2 [.int s1, .int s0] (dq D_m_argues_1_ok 18 rfl) rfl rfl lc_m_bestOf lv_m_bestOf_ ml_m_473 rfl rfl rfl rfl (t_m_bestOf s2 s1 s0 h) (fun r2 h1 => ?_)
  refine r_iast (pc := 135) (dq D_m_argues_1_ok 19 rfl) (fun h3 => ?_)
  refine q_iinc (pc := 136) (v := (1)) (ls' := [(5, .int (v5 + 1)), (0, .ref v0), (3, .int v3), (4, .int v4)]) (dq D_m_argues_1_ok 20 rfl) 3 rfl (by decide) rfl rfl ?_
  refine q_goto (pc := 139) 103 (dq D_m_argues_1_ok 21 rfl) rfl ?_
  exact T.lsub [1, 2, 3, 0] rfl (hk103 (v0, v3, v4, v5 + 1) h3)
noncomputable def b_m_argues_103 (k91 : (Nat × Int32 × Int32) → Hp → Option (Unit × Hp)) (k103 : (Nat × Int32 × Int32 × Int32) → Hp → Option (Unit × Hp)) (v0 : Nat) (v3 : Int32) (v4 : Int32) (v5 : Int32) (h : Hp) : Option (Unit × Hp) := if v3 ≤ v5 then (k91 (v0, v3, v4 + (-1)) h) else (gd (hS h v0 = some (.inl 11)) (bR (hR h v0 32) fun x1 => gd (¬ (2 : Int32) = 0) (if (irm v4 2) = 0 then (b_m_argues_132 k91 k103 v0 v3 v4 v5 1 (v5 * 3) v0 v5 x1 h) else (b_m_argues_132 k91 k103 v0 v3 v4 v5 0 (v5 * 3) v0 v5 x1 h))))
set_option maxHeartbeats 4000000 in
set_option maxRecDepth 20000 in
theorem tb_m_argues_103 {G : GG} {k91 : (Nat × Int32 × Int32) → Hp → Option (Unit × Hp)} (hk91 : ∀ s h, T G M_m_argues 4 cU 91 [(0, .ref s.1), (3, .int s.2.1), (4, .int s.2.2)] [] h (k91 s h)) {k103 : (Nat × Int32 × Int32 × Int32) → Hp → Option (Unit × Hp)} (hk103 : ∀ s h, T G M_m_argues 4 cU 103 [(0, .ref s.1), (3, .int s.2.1), (4, .int s.2.2.1), (5, .int s.2.2.2)] [] h (k103 s h)) (v0 : Nat) (v3 : Int32) (v4 : Int32) (v5 : Int32) (h : Hp) : T G M_m_argues 4 cU 103 [(0, .ref v0), (3, .int v3), (4, .int v4), (5, .int v5)] [] h (b_m_argues_103 k91 k103 v0 v3 v4 v5 h) := by
  unfold b_m_argues_103
  refine q_iload (pc := 103) (dq D_m_argues_1_ok 1 rfl) 3 rfl ?_
  refine q_iload_n (pc := 105) (dq D_m_argues_1_ok 2 rfl) rfl 1 rfl ?_
  refine q_ic_ge (pc := 106) 142 (dq D_m_argues_1_ok 3 rfl) rfl ?_ ?_
  · refine q_iinc (pc := 142) (v := (-1)) (ls' := [(4, .int (v4 + (-1))), (0, .ref v0), (3, .int v3), (5, .int v5)]) (dq D_m_argues_1_ok 22 rfl) 2 rfl (by decide) rfl rfl ?_
    refine q_goto (pc := 145) 91 (dq D_m_argues_1_ok 23 rfl) rfl ?_
    exact T.lsub [1, 2, 0] rfl (hk91 (v0, v3, v4 + (-1)) h)
  · refine q_aload_n (pc := 109) (dq D_m_argues_1_ok 4 rfl) rfl 0 rfl ?_
    refine q_getR (pc := 110) (dq D_m_argues_1_ok 5 rfl) fa_m_48 rfl (fun x1 => ?_)
    refine q_iload (pc := 113) (dq D_m_argues_1_ok 6 rfl) 3 rfl ?_
    refine q_aload_n (pc := 115) (dq D_m_argues_1_ok 7 rfl) rfl 0 rfl ?_
    refine q_iload (pc := 116) (dq D_m_argues_1_ok 8 rfl) 3 rfl ?_
    refine q_ic3 (pc := 118) (dq D_m_argues_1_ok 9 rfl) ?_
    refine q_imul (pc := 119) (dq D_m_argues_1_ok 10 rfl) ?_
    refine q_iload (pc := 120) (dq D_m_argues_1_ok 11 rfl) 2 rfl ?_
    refine q_ic2 (pc := 122) (dq D_m_argues_1_ok 12 rfl) ?_
    refine q_irem (pc := 123) (dq D_m_argues_1_ok 13 rfl) ?_
    refine p_if_ne (pc := 124) 131 (dq D_m_argues_1_ok 14 rfl) rfl ?_ ?_
    · refine q_ic0 (pc := 131) (dq D_m_argues_1_ok 17 rfl) ?_
      exact T.lsub [0, 1, 2, 3] rfl (tb_m_argues_132 hk91 hk103 v0 v3 v4 v5 0 (v5 * 3) v0 v5 x1 h)
    · refine q_ic1 (pc := 127) (dq D_m_argues_1_ok 15 rfl) ?_
      refine q_goto (pc := 128) 132 (dq D_m_argues_1_ok 16 rfl) rfl ?_
      exact T.lsub [0, 1, 2, 3] rfl (tb_m_argues_132 hk91 hk103 v0 v3 v4 v5 1 (v5 * 3) v0 v5 x1 h)
noncomputable def l_m_argues_103 (k91 : (Nat × Int32 × Int32) → Hp → Option (Unit × Hp)) : Nat → (Nat × Int32 × Int32 × Int32) → Hp → Option (Unit × Hp) := lp (fun k103 s h => b_m_argues_103 k91 k103 s.1 s.2.1 s.2.2.1 s.2.2.2 h)
set_option maxHeartbeats 4000000 in
set_option maxRecDepth 20000 in
theorem tl_m_argues_103 {G : GG} {k91 : (Nat × Int32 × Int32) → Hp → Option (Unit × Hp)} (hk91 : ∀ s h, T G M_m_argues 4 cU 91 [(0, .ref s.1), (3, .int s.2.1), (4, .int s.2.2)] [] h (k91 s h)) (n : Nat) (s : Nat × Int32 × Int32 × Int32) (h : Hp) : T G M_m_argues 4 cU 103 [(0, .ref s.1), (3, .int s.2.1), (4, .int s.2.2.1), (5, .int s.2.2.2)] [] h (l_m_argues_103 k91 n s h) :=
  T.loop (lsOf := fun s => [(0, .ref s.1), (3, .int s.2.1), (4, .int s.2.2.1), (5, .int s.2.2.2)]) (fun k103 hk103 s h => tb_m_argues_103 hk91 hk103 s.1 s.2.1 s.2.2.1 s.2.2.2 h) n s h
noncomputable def b_m_argues_91 (k91 : (Nat × Int32 × Int32) → Hp → Option (Unit × Hp)) (v0 : Nat) (v3 : Int32) (v4 : Int32) (h : Hp) : Option (Unit × Hp) := if v4 ≤ 0 then (some ((), h)) else (gd (¬ (3 : Int32) = 0) (lt (v3 / 3 : Int32) fun y1 => lt (0 : Int32) fun y2 => l_m_argues_103 k91 FU (v0, y1, v4, y2) h))
set_option maxHeartbeats 4000000 in
set_option maxRecDepth 20000 in
theorem tb_m_argues_91 {G : GG} {k91 : (Nat × Int32 × Int32) → Hp → Option (Unit × Hp)} (hk91 : ∀ s h, T G M_m_argues 4 cU 91 [(0, .ref s.1), (3, .int s.2.1), (4, .int s.2.2)] [] h (k91 s h)) (v0 : Nat) (v3 : Int32) (v4 : Int32) (h : Hp) : T G M_m_argues 4 cU 91 [(0, .ref v0), (3, .int v3), (4, .int v4)] [] h (b_m_argues_91 k91 v0 v3 v4 h) := by
  unfold b_m_argues_91
  refine q_iload (pc := 91) (dq D_m_argues_0_ok 53 rfl) 2 rfl ?_
  refine p_if_le (pc := 93) 148 (dq D_m_argues_0_ok 54 rfl) rfl ?_ ?_
  · exact r_retu (pc := 148) (dq D_m_argues_1_ok 24 rfl) rfl
  · refine q_iload_n (pc := 96) (dq D_m_argues_0_ok 55 rfl) rfl 1 rfl ?_
    refine q_ic3 (pc := 97) (dq D_m_argues_0_ok 56 rfl) ?_
    refine q_idiv (pc := 98) (dq D_m_argues_0_ok 57 rfl) ?_
    refine r_nmI (fun y1 => ?_)
    refine q_istore_n (pc := 99) (ls' := [(3, .int y1), (0, .ref v0), (4, .int v4)]) (dq D_m_argues_0_ok 58 rfl) rfl rfl rfl ?_
    refine q_ic0 (pc := 100) (dq D_m_argues_0_ok 59 rfl) ?_
    refine r_nmI (fun y2 => ?_)
    refine q_istore (pc := 101) (ls' := [(5, .int y2), (3, .int y1), (0, .ref v0), (4, .int v4)]) (dq D_m_argues_1_ok 0 rfl) rfl rfl ?_
    exact T.lsub [2, 1, 3, 0] rfl (tl_m_argues_103 hk91 FU (v0, y1, v4, y2) h)
noncomputable def l_m_argues_91 : Nat → (Nat × Int32 × Int32) → Hp → Option (Unit × Hp) := lp (fun k91 s h => b_m_argues_91 k91 s.1 s.2.1 s.2.2 h)
set_option maxHeartbeats 4000000 in
set_option maxRecDepth 20000 in
theorem tl_m_argues_91 {G : GG} (n : Nat) (s : Nat × Int32 × Int32) (h : Hp) : T G M_m_argues 4 cU 91 [(0, .ref s.1), (3, .int s.2.1), (4, .int s.2.2)] [] h (l_m_argues_91 n s h) :=
  T.loop (lsOf := fun s => [(0, .ref s.1), (3, .int s.2.1), (4, .int s.2.2)]) (fun k91 hk91 s h => tb_m_argues_91 hk91 s.1 s.2.1 s.2.2 h) n s h
noncomputable def b_m_argues_39 (k24 : (Nat × Int32 × Int32 × Int32 × Int32) → Hp → Option (Unit × Hp)) (k39 : (Nat × Int32 × Int32 × Int32 × Int32 × Int32 × Int32) → Hp → Option (Unit × Hp)) (v0 : Nat) (v1 : Int32) (v2 : Int32) (v3 : Int32) (v4 : Int32) (v5 : Int32) (v6 : Int32) (h : Hp) : Option (Unit × Hp) := if v6 < 0 then (gd (hS h v0 = some (.inl 11)) (bR (hR h v0 32) fun x1 => gd (hS h v0 = some (.inl 11)) (bd (f_m_feastsBy v0 v1 v2 h) fun r3 h2 => gd (ai h2 x1 0 v4) (lt (uI h2 x1 v4.toNatClampNeg r3) fun h4 => k24 (v0, v1, v2, v3, v4 + 1) h4)))) else (gd (hS h v0 = some (.inl 11)) (bR (hR h v0 33) fun x5 => gd (¬ (3 : Int32) = 0) (gd (ai h x5 0 v6) (lt (uI h x5 v6.toNatClampNeg (irm v5 3)) fun h6 => gd (¬ (3 : Int32) = 0) (lt (v5 / 3 : Int32) fun y7 => k39 (v0, v1, v2, v3, v4, y7, v6 + (-1)) h6)))))
set_option maxHeartbeats 4000000 in
set_option maxRecDepth 20000 in
theorem tb_m_argues_39 {G : GG} {k24 : (Nat × Int32 × Int32 × Int32 × Int32) → Hp → Option (Unit × Hp)} (hk24 : ∀ s h, T G M_m_argues 4 cU 24 [(0, .ref s.1), (1, .int s.2.1), (2, .int s.2.2.1), (3, .int s.2.2.2.1), (4, .int s.2.2.2.2)] [] h (k24 s h)) {k39 : (Nat × Int32 × Int32 × Int32 × Int32 × Int32 × Int32) → Hp → Option (Unit × Hp)} (hk39 : ∀ s h, T G M_m_argues 4 cU 39 [(0, .ref s.1), (1, .int s.2.1), (2, .int s.2.2.1), (3, .int s.2.2.2.1), (4, .int s.2.2.2.2.1), (5, .int s.2.2.2.2.2.1), (6, .int s.2.2.2.2.2.2)] [] h (k39 s h)) (v0 : Nat) (v1 : Int32) (v2 : Int32) (v3 : Int32) (v4 : Int32) (v5 : Int32) (v6 : Int32) (h : Hp) : T G M_m_argues 4 cU 39 [(0, .ref v0), (1, .int v1), (2, .int v2), (3, .int v3), (4, .int v4), (5, .int v5), (6, .int v6)] [] h (b_m_argues_39 k24 k39 v0 v1 v2 v3 v4 v5 v6 h) := by
  unfold b_m_argues_39
  refine q_iload (pc := 39) (dq D_m_argues_0_ok 24 rfl) 6 rfl ?_
  refine p_if_lt (pc := 41) 67 (dq D_m_argues_0_ok 25 rfl) rfl ?_ ?_
  · refine q_aload_n (pc := 67) (dq D_m_argues_0_ok 39 rfl) rfl 0 rfl ?_
    refine q_getR (pc := 68) (dq D_m_argues_0_ok 40 rfl) fa_m_48 rfl (fun x1 => ?_)
    refine q_iload (pc := 71) (dq D_m_argues_0_ok 41 rfl) 4 rfl ?_
    refine q_aload_n (pc := 73) (dq D_m_argues_0_ok 42 rfl) rfl 0 rfl ?_
    refine q_iload_n (pc := 74) (dq D_m_argues_0_ok 43 rfl) rfl 1 rfl ?_
    refine q_iload_n (pc := 75) (dq D_m_argues_0_ok 44 rfl) rfl 2 rfl ?_
    refine r_invI (Mc := M_m_feastsBy) (pc := 76) (ci := 11) (rest := [.int v4, .ref x1]) 3 2 [.int v1, .int v2] (dq D_m_argues_0_ok 45 rfl) rfl rfl lc_m_feastsBy lv_m_feastsBy_ ml_m_470 rfl rfl rfl rfl (t_m_feastsBy v0 v1 v2 h) (fun r3 h2 => ?_)
    refine r_iast (pc := 79) (dq D_m_argues_0_ok 46 rfl) (fun h4 => ?_)
    refine q_iinc (pc := 80) (v := (1)) (ls' := [(4, .int (v4 + 1)), (0, .ref v0), (1, .int v1), (2, .int v2), (3, .int v3), (5, .int v5), (6, .int v6)]) (dq D_m_argues_0_ok 47 rfl) 4 rfl (by decide) rfl rfl ?_
    refine q_goto (pc := 83) 24 (dq D_m_argues_0_ok 48 rfl) rfl ?_
    exact T.lsub [1, 2, 3, 4, 0] rfl (hk24 (v0, v1, v2, v3, v4 + 1) h4)
  · refine q_aload_n (pc := 44) (dq D_m_argues_0_ok 26 rfl) rfl 0 rfl ?_
    refine q_getR (pc := 45) (dq D_m_argues_0_ok 27 rfl) fa_m_51 rfl (fun x5 => ?_)
    refine q_iload (pc := 48) (dq D_m_argues_0_ok 28 rfl) 6 rfl ?_
    refine q_iload (pc := 50) (dq D_m_argues_0_ok 29 rfl) 5 rfl ?_
    refine q_ic3 (pc := 52) (dq D_m_argues_0_ok 30 rfl) ?_
    refine q_irem (pc := 53) (dq D_m_argues_0_ok 31 rfl) ?_
    refine r_iast (pc := 54) (dq D_m_argues_0_ok 32 rfl) (fun h6 => ?_)
    refine q_iload (pc := 55) (dq D_m_argues_0_ok 33 rfl) 5 rfl ?_
    refine q_ic3 (pc := 57) (dq D_m_argues_0_ok 34 rfl) ?_
    refine q_idiv (pc := 58) (dq D_m_argues_0_ok 35 rfl) ?_
    refine r_nmI (fun y7 => ?_)
    refine q_istore (pc := 59) (ls' := [(5, .int y7), (0, .ref v0), (1, .int v1), (2, .int v2), (3, .int v3), (4, .int v4), (6, .int v6)]) (dq D_m_argues_0_ok 36 rfl) rfl rfl ?_
    refine q_iinc (pc := 61) (v := (-1)) (ls' := [(6, .int (v6 + (-1))), (5, .int y7), (0, .ref v0), (1, .int v1), (2, .int v2), (3, .int v3), (4, .int v4)]) (dq D_m_argues_0_ok 37 rfl) 6 rfl (by decide) rfl rfl ?_
    refine q_goto (pc := 64) 39 (dq D_m_argues_0_ok 38 rfl) rfl ?_
    exact T.lsub [2, 3, 4, 5, 6, 1, 0] rfl (hk39 (v0, v1, v2, v3, v4, y7, v6 + (-1)) h6)
noncomputable def l_m_argues_39 (k24 : (Nat × Int32 × Int32 × Int32 × Int32) → Hp → Option (Unit × Hp)) : Nat → (Nat × Int32 × Int32 × Int32 × Int32 × Int32 × Int32) → Hp → Option (Unit × Hp) := lp (fun k39 s h => b_m_argues_39 k24 k39 s.1 s.2.1 s.2.2.1 s.2.2.2.1 s.2.2.2.2.1 s.2.2.2.2.2.1 s.2.2.2.2.2.2 h)
set_option maxHeartbeats 4000000 in
set_option maxRecDepth 20000 in
theorem tl_m_argues_39 {G : GG} {k24 : (Nat × Int32 × Int32 × Int32 × Int32) → Hp → Option (Unit × Hp)} (hk24 : ∀ s h, T G M_m_argues 4 cU 24 [(0, .ref s.1), (1, .int s.2.1), (2, .int s.2.2.1), (3, .int s.2.2.2.1), (4, .int s.2.2.2.2)] [] h (k24 s h)) (n : Nat) (s : Nat × Int32 × Int32 × Int32 × Int32 × Int32 × Int32) (h : Hp) : T G M_m_argues 4 cU 39 [(0, .ref s.1), (1, .int s.2.1), (2, .int s.2.2.1), (3, .int s.2.2.2.1), (4, .int s.2.2.2.2.1), (5, .int s.2.2.2.2.2.1), (6, .int s.2.2.2.2.2.2)] [] h (l_m_argues_39 k24 n s h) :=
  T.loop (lsOf := fun s => [(0, .ref s.1), (1, .int s.2.1), (2, .int s.2.2.1), (3, .int s.2.2.2.1), (4, .int s.2.2.2.2.1), (5, .int s.2.2.2.2.2.1), (6, .int s.2.2.2.2.2.2)]) (fun k39 hk39 s h => tb_m_argues_39 hk24 hk39 s.1 s.2.1 s.2.2.1 s.2.2.2.1 s.2.2.2.2.1 s.2.2.2.2.2.1 s.2.2.2.2.2.2 h) n s h
noncomputable def b_m_argues_24 (k24 : (Nat × Int32 × Int32 × Int32 × Int32) → Hp → Option (Unit × Hp)) (v0 : Nat) (v1 : Int32) (v2 : Int32) (v3 : Int32) (v4 : Int32) (h : Hp) : Option (Unit × Hp) := if v3 ≤ v4 then (lt (v2 - 1 : Int32) fun y1 => l_m_argues_91 FU (v0, v3, y1) h) else (lt (v2 - 1 : Int32) fun y2 => l_m_argues_39 k24 FU (v0, v1, v2, v3, v4, v4, y2) h)
set_option maxHeartbeats 4000000 in
set_option maxRecDepth 20000 in
theorem tb_m_argues_24 {G : GG} {k24 : (Nat × Int32 × Int32 × Int32 × Int32) → Hp → Option (Unit × Hp)} (hk24 : ∀ s h, T G M_m_argues 4 cU 24 [(0, .ref s.1), (1, .int s.2.1), (2, .int s.2.2.1), (3, .int s.2.2.2.1), (4, .int s.2.2.2.2)] [] h (k24 s h)) (v0 : Nat) (v1 : Int32) (v2 : Int32) (v3 : Int32) (v4 : Int32) (h : Hp) : T G M_m_argues 4 cU 24 [(0, .ref v0), (1, .int v1), (2, .int v2), (3, .int v3), (4, .int v4)] [] h (b_m_argues_24 k24 v0 v1 v2 v3 v4 h) := by
  unfold b_m_argues_24
  refine q_iload (pc := 24) (dq D_m_argues_0_ok 15 rfl) 4 rfl ?_
  refine q_iload_n (pc := 26) (dq D_m_argues_0_ok 16 rfl) rfl 3 rfl ?_
  refine q_ic_ge (pc := 27) 86 (dq D_m_argues_0_ok 17 rfl) rfl ?_ ?_
  · refine q_iload_n (pc := 86) (dq D_m_argues_0_ok 49 rfl) rfl 2 rfl ?_
    refine q_ic1 (pc := 87) (dq D_m_argues_0_ok 50 rfl) ?_
    refine q_isub (pc := 88) (dq D_m_argues_0_ok 51 rfl) ?_
    refine r_nmI (fun y1 => ?_)
    refine q_istore (pc := 89) (ls' := [(4, .int y1), (0, .ref v0), (1, .int v1), (2, .int v2), (3, .int v3)]) (dq D_m_argues_0_ok 52 rfl) rfl rfl ?_
    exact T.lsub [1, 4, 0] rfl (tl_m_argues_91 FU (v0, v3, y1) h)
  · refine q_iload (pc := 30) (dq D_m_argues_0_ok 18 rfl) 4 rfl ?_
    refine q_istore (pc := 32) (ls' := [(5, .int v4), (0, .ref v0), (1, .int v1), (2, .int v2), (3, .int v3), (4, .int v4)]) (dq D_m_argues_0_ok 19 rfl) rfl rfl ?_
    refine q_iload_n (pc := 34) (dq D_m_argues_0_ok 20 rfl) rfl 3 rfl ?_
    refine q_ic1 (pc := 35) (dq D_m_argues_0_ok 21 rfl) ?_
    refine q_isub (pc := 36) (dq D_m_argues_0_ok 22 rfl) ?_
    refine r_nmI (fun y2 => ?_)
    refine q_istore (pc := 37) (ls' := [(6, .int y2), (5, .int v4), (0, .ref v0), (1, .int v1), (2, .int v2), (3, .int v3), (4, .int v4)]) (dq D_m_argues_0_ok 23 rfl) rfl rfl ?_
    exact T.lsub [2, 3, 4, 5, 6, 1, 0] rfl (tl_m_argues_39 hk24 FU (v0, v1, v2, v3, v4, v4, y2) h)
noncomputable def l_m_argues_24 : Nat → (Nat × Int32 × Int32 × Int32 × Int32) → Hp → Option (Unit × Hp) := lp (fun k24 s h => b_m_argues_24 k24 s.1 s.2.1 s.2.2.1 s.2.2.2.1 s.2.2.2.2 h)
set_option maxHeartbeats 4000000 in
set_option maxRecDepth 20000 in
theorem tl_m_argues_24 {G : GG} (n : Nat) (s : Nat × Int32 × Int32 × Int32 × Int32) (h : Hp) : T G M_m_argues 4 cU 24 [(0, .ref s.1), (1, .int s.2.1), (2, .int s.2.2.1), (3, .int s.2.2.2.1), (4, .int s.2.2.2.2)] [] h (l_m_argues_24 n s h) :=
  T.loop (lsOf := fun s => [(0, .ref s.1), (1, .int s.2.1), (2, .int s.2.2.1), (3, .int s.2.2.2.1), (4, .int s.2.2.2.2)]) (fun k24 hk24 s h => tb_m_argues_24 hk24 s.1 s.2.1 s.2.2.1 s.2.2.2.1 s.2.2.2.2 h) n s h
noncomputable def b_m_argues_5 (k5 : (Nat × Int32 × Int32 × Int32 × Int32) → Hp → Option (Unit × Hp)) (v0 : Nat) (v1 : Int32) (v2 : Int32) (v3 : Int32) (v4 : Int32) (h : Hp) : Option (Unit × Hp) := if v2 ≤ v4 then (lt (0 : Int32) fun y1 => l_m_argues_24 FU (v0, v1, v2, v3, y1) h) else (lt (v3 * 3 : Int32) fun y2 => k5 (v0, v1, v2, y2, v4 + 1) h)
set_option maxHeartbeats 4000000 in
set_option maxRecDepth 20000 in
theorem tb_m_argues_5 {G : GG} {k5 : (Nat × Int32 × Int32 × Int32 × Int32) → Hp → Option (Unit × Hp)} (hk5 : ∀ s h, T G M_m_argues 4 cU 5 [(0, .ref s.1), (1, .int s.2.1), (2, .int s.2.2.1), (3, .int s.2.2.2.1), (4, .int s.2.2.2.2)] [] h (k5 s h)) (v0 : Nat) (v1 : Int32) (v2 : Int32) (v3 : Int32) (v4 : Int32) (h : Hp) : T G M_m_argues 4 cU 5 [(0, .ref v0), (1, .int v1), (2, .int v2), (3, .int v3), (4, .int v4)] [] h (b_m_argues_5 k5 v0 v1 v2 v3 v4 h) := by
  unfold b_m_argues_5
  refine q_iload (pc := 5) (dq D_m_argues_0_ok 4 rfl) 4 rfl ?_
  refine q_iload_n (pc := 7) (dq D_m_argues_0_ok 5 rfl) rfl 2 rfl ?_
  refine q_ic_ge (pc := 8) 21 (dq D_m_argues_0_ok 6 rfl) rfl ?_ ?_
  · refine q_ic0 (pc := 21) (dq D_m_argues_0_ok 13 rfl) ?_
    refine r_nmI (fun y1 => ?_)
    refine q_istore (pc := 22) (ls' := [(4, .int y1), (0, .ref v0), (1, .int v1), (2, .int v2), (3, .int v3)]) (dq D_m_argues_0_ok 14 rfl) rfl rfl ?_
    exact T.lsub [1, 2, 3, 4, 0] rfl (tl_m_argues_24 FU (v0, v1, v2, v3, y1) h)
  · refine q_iload_n (pc := 11) (dq D_m_argues_0_ok 7 rfl) rfl 3 rfl ?_
    refine q_ic3 (pc := 12) (dq D_m_argues_0_ok 8 rfl) ?_
    refine q_imul (pc := 13) (dq D_m_argues_0_ok 9 rfl) ?_
    refine r_nmI (fun y2 => ?_)
    refine q_istore_n (pc := 14) (ls' := [(3, .int y2), (0, .ref v0), (1, .int v1), (2, .int v2), (4, .int v4)]) (dq D_m_argues_0_ok 10 rfl) rfl rfl rfl ?_
    refine q_iinc (pc := 15) (v := (1)) (ls' := [(4, .int (v4 + 1)), (3, .int y2), (0, .ref v0), (1, .int v1), (2, .int v2)]) (dq D_m_argues_0_ok 11 rfl) 4 rfl (by decide) rfl rfl ?_
    refine q_goto (pc := 18) 5 (dq D_m_argues_0_ok 12 rfl) rfl ?_
    exact T.lsub [2, 3, 4, 1, 0] rfl (hk5 (v0, v1, v2, y2, v4 + 1) h)
noncomputable def l_m_argues_5 : Nat → (Nat × Int32 × Int32 × Int32 × Int32) → Hp → Option (Unit × Hp) := lp (fun k5 s h => b_m_argues_5 k5 s.1 s.2.1 s.2.2.1 s.2.2.2.1 s.2.2.2.2 h)
set_option maxHeartbeats 4000000 in
set_option maxRecDepth 20000 in
theorem tl_m_argues_5 {G : GG} (n : Nat) (s : Nat × Int32 × Int32 × Int32 × Int32) (h : Hp) : T G M_m_argues 4 cU 5 [(0, .ref s.1), (1, .int s.2.1), (2, .int s.2.2.1), (3, .int s.2.2.2.1), (4, .int s.2.2.2.2)] [] h (l_m_argues_5 n s h) :=
  T.loop (lsOf := fun s => [(0, .ref s.1), (1, .int s.2.1), (2, .int s.2.2.1), (3, .int s.2.2.2.1), (4, .int s.2.2.2.2)]) (fun k5 hk5 s h => tb_m_argues_5 hk5 s.1 s.2.1 s.2.2.1 s.2.2.2.1 s.2.2.2.2 h) n s h
noncomputable def f_m_argues (v0 : Nat) (v1 : Int32) (v2 : Int32) (h : Hp) : Option (Unit × Hp) := lt (1 : Int32) fun y1 => lt (0 : Int32) fun y2 => l_m_argues_5 FU (v0, v1, v2, y1, y2) h
set_option maxHeartbeats 4000000 in
set_option maxRecDepth 20000 in
theorem t_m_argues {G : GG} (v0 : Nat) (v1 : Int32) (v2 : Int32) (h : Hp) : Mt G M_m_argues 4 [.ref v0, .int v1, .int v2] cU h (f_m_argues v0 v1 v2 h) := by
  refine Mt.ofF (by decide +kernel) rfl (Rt.v rfl rfl) ?_
  show T G M_m_argues 4 cU 0 [(0, .ref v0), (1, .int v1), (2, .int v2)] [] h _
  unfold f_m_argues
  refine q_ic1 (pc := 0) (dq D_m_argues_0_ok 0 rfl) ?_
  refine r_nmI (fun y1 => ?_)
  refine q_istore_n (pc := 1) (ls' := [(3, .int y1), (0, .ref v0), (1, .int v1), (2, .int v2)]) (dq D_m_argues_0_ok 1 rfl) rfl rfl rfl ?_
  refine q_ic0 (pc := 2) (dq D_m_argues_0_ok 2 rfl) ?_
  refine r_nmI (fun y2 => ?_)
  refine q_istore (pc := 3) (ls' := [(4, .int y2), (3, .int y1), (0, .ref v0), (1, .int v1), (2, .int v2)]) (dq D_m_argues_0_ok 3 rfl) rfl rfl ?_
  exact T.lsub [2, 3, 4, 1, 0] rfl (tl_m_argues_5 FU (v0, v1, v2, y1, y2) h)
noncomputable def b_m_value_50 (s0 : Int32) (s1 : Nat) (h : Hp) : Option (Int32 × Hp) := gd (hS h s1 = some (.inl 11)) (bd (f_m_good s1 s0 h) fun r2 h1 => some (r2, h1))
set_option maxHeartbeats 4000000 in
set_option maxRecDepth 20000 in
theorem tb_m_value_50 {G : GG} (s0 : Int32) (s1 : Nat) (h : Hp) : T G M_m_value 5 cI 50 [] [.int s0, .ref s1] h (b_m_value_50 s0 s1 h) := by
  unfold b_m_value_50
  refine r_invI (Mc := M_m_good) (pc := 50) (ci := 11) (rest := []) 0 1 [.int s0] (dq D_m_value_0_ok 31 rfl) rfl rfl lc_m_good lv_m_good_ ml_m_64 rfl rfl rfl rfl (t_m_good s1 s0 h) (fun r2 h1 => ?_)
  exact r_reti (pc := 53) (dq D_m_value_0_ok 32 rfl) rfl
noncomputable def f_m_value (v0 : Nat) (v1 : Int32) (v2 : Int32) (h : Hp) : Option (Int32 × Hp) := gd (hS h v0 = some (.inl 11)) (lt (uI h v0 0 0) fun h1 => gd (hS h1 v0 = some (.inl 11)) (bd (f_m_isFeast v0 v1 h1) fun r3 h2 => gd (hS h2 v0 = some (.inl 11)) (bd (f_m_refusesDays v0 r3 v2 (0 : Int32) (6 : Int32) h2) fun r5 h4 => if r5 ≤ 0 then (gd (hS h4 v0 = some (.inl 11)) (bd (f_m_argues v0 v1 v2 h4) fun _ h6 => if v2 = 0 then (b_m_value_50 0 v0 h6) else (gd (hS h6 v0 = some (.inl 11)) (bd (f_m_bestOf v0 (0 : Int32) (1 : Int32) h6) fun r9 h8 => b_m_value_50 r9 v0 h8)))) else (gd (hS h4 v0 = some (.inl 11)) (bd (f_m_refused v0 r5 h4) fun r11 h10 => some (r11, h10))))))
set_option maxHeartbeats 4000000 in
set_option maxRecDepth 20000 in
theorem t_m_value {G : GG} (v0 : Nat) (v1 : Int32) (v2 : Int32) (h : Hp) : Mt G M_m_value 5 [.ref v0, .int v1, .int v2] cI h (f_m_value v0 v1 v2 h) := by
  refine Mt.ofF (by decide +kernel) rfl (Rt.i rfl rfl) ?_
  show T G M_m_value 5 cI 0 [(0, .ref v0), (1, .int v1), (2, .int v2)] [] h _
  unfold f_m_value
  refine q_aload_n (pc := 0) (dq D_m_value_0_ok 0 rfl) rfl 0 rfl ?_
  refine q_ic0 (pc := 1) (dq D_m_value_0_ok 1 rfl) ?_
  refine r_putI (pc := 2) (dq D_m_value_0_ok 2 rfl) fp_m_54 rfl rfl (fun h1 => ?_)
  refine q_aload_n (pc := 5) (dq D_m_value_0_ok 3 rfl) rfl 0 rfl ?_
  refine q_aload_n (pc := 6) (dq D_m_value_0_ok 4 rfl) rfl 0 rfl ?_
  refine q_iload_n (pc := 7) (dq D_m_value_0_ok 5 rfl) rfl 1 rfl ?_
  refine r_invI (Mc := M_m_isFeast) (pc := 8) (ci := 11) (rest := [.ref v0]) 0 1 [.int v1] (dq D_m_value_0_ok 6 rfl) rfl rfl lc_m_isFeast lv_m_isFeast_ ml_m_360 rfl rfl rfl rfl (t_m_isFeast v0 v1 h1) (fun r3 h2 => ?_)
  refine q_iload_n (pc := 11) (dq D_m_value_0_ok 7 rfl) rfl 2 rfl ?_
  refine q_ic0 (pc := 12) (dq D_m_value_0_ok 8 rfl) ?_
  refine q_bipush (pc := 13) (v := 6) (dq D_m_value_0_ok 9 rfl) (by decide) ?_
  refine r_invI (Mc := M_m_refusesDays) (pc := 15) (ci := 11) (rest := []) 1 4 [.int r3, .int v2, .int 0, .int 6] (dq D_m_value_0_ok 10 rfl) rfl rfl lc_m_refusesDays lv_m_refusesDays_ ml_m_392 rfl rfl rfl rfl (t_m_refusesDays v0 r3 v2 (0 : Int32) (6 : Int32) h2) (fun r5 h4 => ?_)
  refine q_istore_n (pc := 18) (ls' := [(3, .int r5), (0, .ref v0), (1, .int v1), (2, .int v2)]) (dq D_m_value_0_ok 11 rfl) rfl rfl rfl ?_
  refine q_iload_n (pc := 19) (dq D_m_value_0_ok 12 rfl) rfl 0 rfl ?_
  refine p_if_le (pc := 20) 29 (dq D_m_value_0_ok 13 rfl) rfl ?_ ?_
  · refine q_aload_n (pc := 29) (dq D_m_value_0_ok 18 rfl) rfl 1 rfl ?_
    refine q_iload_n (pc := 30) (dq D_m_value_0_ok 19 rfl) rfl 2 rfl ?_
    refine q_iload_n (pc := 31) (dq D_m_value_0_ok 20 rfl) rfl 3 rfl ?_
    refine r_invU (Mc := M_m_argues) (pc := 32) (ci := 11) (rest := []) 4 2 [.int v1, .int v2] (dq D_m_value_0_ok 21 rfl) rfl rfl lc_m_argues lv_m_argues_ ml_m_477 rfl rfl rfl rfl (t_m_argues v0 v1 v2 h4) (fun _ h6 => ?_)
    refine q_aload_n (pc := 35) (dq D_m_value_0_ok 22 rfl) rfl 1 rfl ?_
    refine q_iload_n (pc := 36) (dq D_m_value_0_ok 23 rfl) rfl 3 rfl ?_
    refine p_if_ne (pc := 37) 44 (dq D_m_value_0_ok 24 rfl) rfl ?_ ?_
    · refine q_aload_n (pc := 44) (dq D_m_value_0_ok 27 rfl) rfl 1 rfl ?_
      refine q_ic0 (pc := 45) (dq D_m_value_0_ok 28 rfl) ?_
      refine q_ic1 (pc := 46) (dq D_m_value_0_ok 29 rfl) ?_
      refine r_invI (Mc := M_m_bestOf) (pc := 47) (ci := 11) (rest := [.ref v0]) 0 2 [.int 0, .int 1] (dq D_m_value_0_ok 30 rfl) rfl rfl lc_m_bestOf lv_m_bestOf_ ml_m_473 rfl rfl rfl rfl (t_m_bestOf v0 (0 : Int32) (1 : Int32) h6) (fun r9 h8 => ?_)
      exact T.lsub [] rfl (tb_m_value_50 r9 v0 h8)
    · refine q_ic0 (pc := 40) (dq D_m_value_0_ok 25 rfl) ?_
      refine q_goto (pc := 41) 50 (dq D_m_value_0_ok 26 rfl) rfl ?_
      exact T.lsub [] rfl (tb_m_value_50 0 v0 h6)
  · refine q_aload_n (pc := 23) (dq D_m_value_0_ok 14 rfl) rfl 1 rfl ?_
    refine q_iload_n (pc := 24) (dq D_m_value_0_ok 15 rfl) rfl 0 rfl ?_
    refine r_invI (Mc := M_m_refused) (pc := 25) (ci := 11) (rest := []) 0 1 [.int r5] (dq D_m_value_0_ok 16 rfl) rfl rfl lc_m_refused lv_m_refused_ ml_m_60 rfl rfl rfl rfl (t_m_refused v0 r5 h4) (fun r11 h10 => ?_)
    exact r_reti (pc := 28) (dq D_m_value_0_ok 17 rfl) rfl
noncomputable def b_m_moves_46 (k46 : (Nat × Int32 × Int32) → Hp → Option (Int32 × Hp)) (v0 : Nat) (v4 : Int32) (v5 : Int32) (h : Hp) : Option (Int32 × Hp) := gd (hS h v0 = some (.inl 11)) (bR (hR h v0 32) fun x1 => gd (ai h x1 0 v5) (lt (hI h x1 v5.toNatClampNeg) fun x2 => if x2 = v4 then (gd (hS h v0 = some (.inl 11)) (bd (f_m_good v0 v5 h) fun r4 h3 => some (r4, h3))) else (k46 (v0, v4, v5 + 1) h)))
set_option maxHeartbeats 4000000 in
set_option maxRecDepth 20000 in
theorem tb_m_moves_46 {G : GG} {k46 : (Nat × Int32 × Int32) → Hp → Option (Int32 × Hp)} (hk46 : ∀ s h, T G M_m_moves 5 cI 46 [(0, .ref s.1), (4, .int s.2.1), (5, .int s.2.2)] [] h (k46 s h)) (v0 : Nat) (v4 : Int32) (v5 : Int32) (h : Hp) : T G M_m_moves 5 cI 46 [(0, .ref v0), (4, .int v4), (5, .int v5)] [] h (b_m_moves_46 k46 v0 v4 v5 h) := by
  unfold b_m_moves_46
  refine q_aload_n (pc := 46) (dq D_m_moves_0_ok 29 rfl) rfl 0 rfl ?_
  refine q_getR (pc := 47) (dq D_m_moves_0_ok 30 rfl) fa_m_48 rfl (fun x1 => ?_)
  refine q_iload (pc := 50) (dq D_m_moves_0_ok 31 rfl) 2 rfl ?_
  refine r_iald (pc := 52) (dq D_m_moves_0_ok 32 rfl) (fun x2 => ?_)
  refine q_iload (pc := 53) (dq D_m_moves_0_ok 33 rfl) 1 rfl ?_
  refine q_ic_eq (pc := 55) 64 (dq D_m_moves_0_ok 34 rfl) rfl ?_ ?_
  · refine q_aload_n (pc := 64) (dq D_m_moves_0_ok 37 rfl) rfl 0 rfl ?_
    refine q_iload (pc := 65) (dq D_m_moves_0_ok 38 rfl) 2 rfl ?_
    refine r_invI (Mc := M_m_good) (pc := 67) (ci := 11) (rest := []) 0 1 [.int v5] (dq D_m_moves_0_ok 39 rfl) rfl rfl lc_m_good lv_m_good_ ml_m_64 rfl rfl rfl rfl (t_m_good v0 v5 h) (fun r4 h3 => ?_)
    exact r_reti (pc := 70) (dq D_m_moves_0_ok 40 rfl) rfl
  · refine q_iinc (pc := 58) (v := (1)) (ls' := [(5, .int (v5 + 1)), (0, .ref v0), (4, .int v4)]) (dq D_m_moves_0_ok 35 rfl) 2 rfl (by decide) rfl rfl ?_
    refine q_goto (pc := 61) 46 (dq D_m_moves_0_ok 36 rfl) rfl ?_
    exact T.lsub [1, 2, 0] rfl (hk46 (v0, v4, v5 + 1) h)
noncomputable def l_m_moves_46 : Nat → (Nat × Int32 × Int32) → Hp → Option (Int32 × Hp) := lp (fun k46 s h => b_m_moves_46 k46 s.1 s.2.1 s.2.2 h)
set_option maxHeartbeats 4000000 in
set_option maxRecDepth 20000 in
theorem tl_m_moves_46 {G : GG} (n : Nat) (s : Nat × Int32 × Int32) (h : Hp) : T G M_m_moves 5 cI 46 [(0, .ref s.1), (4, .int s.2.1), (5, .int s.2.2)] [] h (l_m_moves_46 n s h) :=
  T.loop (lsOf := fun s => [(0, .ref s.1), (4, .int s.2.1), (5, .int s.2.2)]) (fun k46 hk46 s h => tb_m_moves_46 hk46 s.1 s.2.1 s.2.2 h) n s h
noncomputable def f_m_moves (v0 : Nat) (v1 : Int32) (v2 : Int32) (h : Hp) : Option (Int32 × Hp) := gd (hS h v0 = some (.inl 11)) (lt (uI h v0 0 0) fun h1 => gd (hS h1 v0 = some (.inl 11)) (bd (f_m_isFeast v0 v1 h1) fun r3 h2 => gd (hS h2 v0 = some (.inl 11)) (bd (f_m_refusesDays v0 r3 v2 (1 : Int32) (6 : Int32) h2) fun r5 h4 => if r5 ≤ 0 then (gd (hS h4 v0 = some (.inl 11)) (bd (f_m_argues v0 v1 v2 h4) fun _ h6 => gd (hS h6 v0 = some (.inl 11)) (bd (f_m_bestOf v0 (0 : Int32) (1 : Int32) h6) fun r9 h8 => lt (0 : Int32) fun y10 => l_m_moves_46 FU (v0, r9, y10) h8))) else (gd (hS h4 v0 = some (.inl 11)) (bd (f_m_refused v0 r5 h4) fun r12 h11 => some (r12, h11))))))
set_option maxHeartbeats 4000000 in
set_option maxRecDepth 20000 in
theorem t_m_moves {G : GG} (v0 : Nat) (v1 : Int32) (v2 : Int32) (h : Hp) : Mt G M_m_moves 5 [.ref v0, .int v1, .int v2] cI h (f_m_moves v0 v1 v2 h) := by
  refine Mt.ofF (by decide +kernel) rfl (Rt.i rfl rfl) ?_
  show T G M_m_moves 5 cI 0 [(0, .ref v0), (1, .int v1), (2, .int v2)] [] h _
  unfold f_m_moves
  refine q_aload_n (pc := 0) (dq D_m_moves_0_ok 0 rfl) rfl 0 rfl ?_
  refine q_ic0 (pc := 1) (dq D_m_moves_0_ok 1 rfl) ?_
  refine r_putI (pc := 2) (dq D_m_moves_0_ok 2 rfl) fp_m_54 rfl rfl (fun h1 => ?_)
  refine q_aload_n (pc := 5) (dq D_m_moves_0_ok 3 rfl) rfl 0 rfl ?_
  refine q_aload_n (pc := 6) (dq D_m_moves_0_ok 4 rfl) rfl 0 rfl ?_
  refine q_iload_n (pc := 7) (dq D_m_moves_0_ok 5 rfl) rfl 1 rfl ?_
  refine r_invI (Mc := M_m_isFeast) (pc := 8) (ci := 11) (rest := [.ref v0]) 0 1 [.int v1] (dq D_m_moves_0_ok 6 rfl) rfl rfl lc_m_isFeast lv_m_isFeast_ ml_m_360 rfl rfl rfl rfl (t_m_isFeast v0 v1 h1) (fun r3 h2 => ?_)
  refine q_iload_n (pc := 11) (dq D_m_moves_0_ok 7 rfl) rfl 2 rfl ?_
  refine q_ic1 (pc := 12) (dq D_m_moves_0_ok 8 rfl) ?_
  refine q_bipush (pc := 13) (v := 6) (dq D_m_moves_0_ok 9 rfl) (by decide) ?_
  refine r_invI (Mc := M_m_refusesDays) (pc := 15) (ci := 11) (rest := []) 1 4 [.int r3, .int v2, .int 1, .int 6] (dq D_m_moves_0_ok 10 rfl) rfl rfl lc_m_refusesDays lv_m_refusesDays_ ml_m_392 rfl rfl rfl rfl (t_m_refusesDays v0 r3 v2 (1 : Int32) (6 : Int32) h2) (fun r5 h4 => ?_)
  refine q_istore_n (pc := 18) (ls' := [(3, .int r5), (0, .ref v0), (1, .int v1), (2, .int v2)]) (dq D_m_moves_0_ok 11 rfl) rfl rfl rfl ?_
  refine q_iload_n (pc := 19) (dq D_m_moves_0_ok 12 rfl) rfl 0 rfl ?_
  refine p_if_le (pc := 20) 29 (dq D_m_moves_0_ok 13 rfl) rfl ?_ ?_
  · refine q_aload_n (pc := 29) (dq D_m_moves_0_ok 18 rfl) rfl 1 rfl ?_
    refine q_iload_n (pc := 30) (dq D_m_moves_0_ok 19 rfl) rfl 2 rfl ?_
    refine q_iload_n (pc := 31) (dq D_m_moves_0_ok 20 rfl) rfl 3 rfl ?_
    refine r_invU (Mc := M_m_argues) (pc := 32) (ci := 11) (rest := []) 4 2 [.int v1, .int v2] (dq D_m_moves_0_ok 21 rfl) rfl rfl lc_m_argues lv_m_argues_ ml_m_477 rfl rfl rfl rfl (t_m_argues v0 v1 v2 h4) (fun _ h6 => ?_)
    refine q_aload_n (pc := 35) (dq D_m_moves_0_ok 22 rfl) rfl 1 rfl ?_
    refine q_ic0 (pc := 36) (dq D_m_moves_0_ok 23 rfl) ?_
    refine q_ic1 (pc := 37) (dq D_m_moves_0_ok 24 rfl) ?_
    refine r_invI (Mc := M_m_bestOf) (pc := 38) (ci := 11) (rest := []) 0 2 [.int 0, .int 1] (dq D_m_moves_0_ok 25 rfl) rfl rfl lc_m_bestOf lv_m_bestOf_ ml_m_473 rfl rfl rfl rfl (t_m_bestOf v0 (0 : Int32) (1 : Int32) h6) (fun r9 h8 => ?_)
    refine q_istore (pc := 41) (ls' := [(4, .int r9), (3, .int r5), (0, .ref v0), (1, .int v1), (2, .int v2)]) (dq D_m_moves_0_ok 26 rfl) rfl rfl ?_
    refine q_ic0 (pc := 43) (dq D_m_moves_0_ok 27 rfl) ?_
    refine r_nmI (fun y10 => ?_)
    refine q_istore (pc := 44) (ls' := [(5, .int y10), (4, .int r9), (3, .int r5), (0, .ref v0), (1, .int v1), (2, .int v2)]) (dq D_m_moves_0_ok 28 rfl) rfl rfl ?_
    exact T.lsub [3, 1, 0] rfl (tl_m_moves_46 FU (v0, r9, y10) h8)
  · refine q_aload_n (pc := 23) (dq D_m_moves_0_ok 14 rfl) rfl 1 rfl ?_
    refine q_iload_n (pc := 24) (dq D_m_moves_0_ok 15 rfl) rfl 0 rfl ?_
    refine r_invI (Mc := M_m_refused) (pc := 25) (ci := 11) (rest := []) 0 1 [.int r5] (dq D_m_moves_0_ok 16 rfl) rfl rfl lc_m_refused lv_m_refused_ ml_m_60 rfl rfl rfl rfl (t_m_refused v0 r5 h4) (fun r12 h11 => ?_)
    exact r_reti (pc := 28) (dq D_m_moves_0_ok 17 rfl) rfl
noncomputable def f_m_slips1 (v0 : Nat) (v1 : Int32) (h : Hp) : Option (Unit × Hp) := gd (hS h v0 = some (.inl 11)) (bR (hR h v0 16) fun x1 => gd (hS h v0 = some (.inl 11)) (bR (hR h v0 3) fun x2 => gd (hS h x2 = some (.inl 12)) (bR (hR h x2 11) fun x3 => gd (ai h x3 0 v1) (lt (hI h x3 v1.toNatClampNeg) fun x4 => gd (hS h v0 = some (.inl 11)) (bR (hR h v0 3) fun x5 => gd (hS h x5 = some (.inl 12)) (bR (hR h x5 14) fun x6 => gd (ai h x6 1 v1) (lt (hL h x6 v1.toNatClampNeg) fun x7 => gd (hS h v0 = some (.inl 11)) (bR (hR h v0 16) fun x8 => gd (ai h x8 0 v1) (lt (hI h x8 v1.toNatClampNeg) fun x9 => gd (hS h v0 = some (.inl 11)) (bd (f_m_way v0 v1 (1 : Int32) h) fun r11 h10 => gd (hS h10 v0 = some (.inl 11)) (bd (f_m_goes v0 x4 x7 x9 r11 h10) fun r13 h12 => gd (ai h12 x1 0 v1) (lt (uI h12 x1 v1.toNatClampNeg r13) fun h14 => gd (hS h14 v0 = some (.inl 11)) (lt (hI h14 v0 34) fun x15 => gd (hS h14 v0 = some (.inl 11)) (lt (hI h14 v0 21) fun x16 => if x16 = 0 then (gd (hS h14 v0 = some (.inl 11)) (lt (uI h14 v0 34 (x15 + 0)) fun h17 => some ((), h17))) else (gd (hS h14 v0 = some (.inl 11)) (lt (uI h14 v0 34 (x15 + 1)) fun h18 => some ((), h18)))))))))))))))))
set_option maxHeartbeats 4000000 in
set_option maxRecDepth 20000 in
theorem t_m_slips1 {G : GG} (v0 : Nat) (v1 : Int32) (h : Hp) : Mt G M_m_slips1 1 [.ref v0, .int v1] cU h (f_m_slips1 v0 v1 h) := by
  refine Mt.ofF (by decide +kernel) rfl (Rt.v rfl rfl) ?_
  show T G M_m_slips1 1 cU 0 [(0, .ref v0), (1, .int v1)] [] h _
  unfold f_m_slips1
  refine q_aload_n (pc := 0) (dq D_m_slips1_0_ok 0 rfl) rfl 0 rfl ?_
  refine q_getR (pc := 1) (dq D_m_slips1_0_ok 1 rfl) fa_m_21 rfl (fun x1 => ?_)
  refine q_iload_n (pc := 4) (dq D_m_slips1_0_ok 2 rfl) rfl 1 rfl ?_
  refine q_aload_n (pc := 5) (dq D_m_slips1_0_ok 3 rfl) rfl 0 rfl ?_
  refine q_aload_n (pc := 6) (dq D_m_slips1_0_ok 4 rfl) rfl 0 rfl ?_
  refine q_getR (pc := 7) (dq D_m_slips1_0_ok 5 rfl) fa_m_348 rfl (fun x2 => ?_)
  refine q_getR (pc := 10) (dq D_m_slips1_0_ok 6 rfl) fa_m_269 rfl (fun x3 => ?_)
  refine q_iload_n (pc := 13) (dq D_m_slips1_0_ok 7 rfl) rfl 1 rfl ?_
  refine r_iald (pc := 14) (dq D_m_slips1_0_ok 8 rfl) (fun x4 => ?_)
  refine q_aload_n (pc := 15) (dq D_m_slips1_0_ok 9 rfl) rfl 0 rfl ?_
  refine q_getR (pc := 16) (dq D_m_slips1_0_ok 10 rfl) fa_m_348 rfl (fun x5 => ?_)
  refine q_getR (pc := 19) (dq D_m_slips1_0_ok 11 rfl) fa_m_284 rfl (fun x6 => ?_)
  refine q_iload_n (pc := 22) (dq D_m_slips1_0_ok 12 rfl) rfl 1 rfl ?_
  refine r_lald (pc := 23) (dq D_m_slips1_0_ok 13 rfl) (fun x7 => ?_)
  refine q_aload_n (pc := 24) (dq D_m_slips1_0_ok 14 rfl) rfl 0 rfl ?_
  refine q_getR (pc := 25) (dq D_m_slips1_0_ok 15 rfl) fa_m_21 rfl (fun x8 => ?_)
  refine q_iload_n (pc := 28) (dq D_m_slips1_0_ok 16 rfl) rfl 1 rfl ?_
  refine r_iald (pc := 29) (dq D_m_slips1_0_ok 17 rfl) (fun x9 => ?_)
  refine q_aload_n (pc := 30) (dq D_m_slips1_0_ok 18 rfl) rfl 0 rfl ?_
  refine q_iload_n (pc := 31) (dq D_m_slips1_0_ok 19 rfl) rfl 1 rfl ?_
  refine q_ic1 (pc := 32) (dq D_m_slips1_0_ok 20 rfl) ?_
  refine r_invI (Mc := M_m_way) (pc := 33) (ci := 11) (rest := [.int x9, .long x7, .int x4, .ref v0, .int v1, .ref x1]) 0 2 [.int v1, .int 1] (dq D_m_slips1_0_ok 21 rfl) rfl rfl lc_m_way lv_m_way_ ml_m_367 rfl rfl rfl rfl (t_m_way v0 v1 (1 : Int32) h) (fun r11 h10 => ?_)
  refine r_invI (Mc := M_m_goes) (pc := 36) (ci := 11) (rest := [.int v1, .ref x1]) 0 4 [.int x4, .long x7, .int x9, .int r11] (dq D_m_slips1_0_ok 22 rfl) rfl rfl lc_m_goes lv_m_goes_ ml_m_370 rfl rfl rfl rfl (t_m_goes v0 x4 x7 x9 r11 h10) (fun r13 h12 => ?_)
  refine r_iast (pc := 39) (dq D_m_slips1_0_ok 23 rfl) (fun h14 => ?_)
  refine q_aload_n (pc := 40) (dq D_m_slips1_0_ok 24 rfl) rfl 0 rfl ?_
  refine q_dup (pc := 41) (dq D_m_slips1_0_ok 25 rfl) rfl ?_
  refine r_getI (pc := 42) (dq D_m_slips1_0_ok 26 rfl) fa_m_480 rfl (fun x15 => ?_)
  refine q_aload_n (pc := 45) (dq D_m_slips1_0_ok 27 rfl) rfl 0 rfl ?_
  refine r_getI (pc := 46) (dq D_m_slips1_0_ok 28 rfl) fa_m_363 rfl (fun x16 => ?_)
  refine p_if_eq (pc := 49) 56 (dq D_m_slips1_0_ok 29 rfl) rfl ?_ ?_
  · refine q_ic0 (pc := 56) (dq D_m_slips1_0_ok 32 rfl) ?_
    refine q_iadd (pc := 57) (dq D_m_slips1_0_ok 33 rfl) ?_
    refine r_putI (pc := 58) (dq D_m_slips1_0_ok 34 rfl) fp_m_480 rfl rfl (fun h17 => ?_)
    exact r_retu (pc := 61) (dq D_m_slips1_0_ok 35 rfl) rfl
  · refine q_ic1 (pc := 52) (dq D_m_slips1_0_ok 30 rfl) ?_
    refine q_goto (pc := 53) 57 (dq D_m_slips1_0_ok 31 rfl) rfl ?_
    refine q_iadd (pc := 57) (dq D_m_slips1_0_ok 33 rfl) ?_
    refine r_putI (pc := 58) (dq D_m_slips1_0_ok 34 rfl) fp_m_480 rfl rfl (fun h18 => ?_)
    exact r_retu (pc := 61) (dq D_m_slips1_0_ok 35 rfl) rfl
noncomputable def b_m_slipsBy_126 (k12 : (Nat × Int32 × Int32 × Int32 × Int32) → Hp → Option (Int32 × Hp)) (v0 : Nat) (v1 : Int32) (v2 : Int32) (v3 : Int32) (v4 : Int32) (h : Hp) : Option (Int32 × Hp) := k12 (v0, v1, v2, v3, v4 + 1) h
set_option maxHeartbeats 4000000 in
set_option maxRecDepth 20000 in
theorem tb_m_slipsBy_126 {G : GG} {k12 : (Nat × Int32 × Int32 × Int32 × Int32) → Hp → Option (Int32 × Hp)} (hk12 : ∀ s h, T G M_m_slipsBy 2 cI 12 [(0, .ref s.1), (1, .int s.2.1), (2, .int s.2.2.1), (3, .int s.2.2.2.1), (4, .int s.2.2.2.2)] [] h (k12 s h)) (v0 : Nat) (v1 : Int32) (v2 : Int32) (v3 : Int32) (v4 : Int32) (h : Hp) : T G M_m_slipsBy 2 cI 126 [(0, .ref v0), (1, .int v1), (2, .int v2), (3, .int v3), (4, .int v4)] [] h (b_m_slipsBy_126 k12 v0 v1 v2 v3 v4 h) := by
  unfold b_m_slipsBy_126
  refine q_iinc (pc := 126) (v := (1)) (ls' := [(4, .int (v4 + 1)), (0, .ref v0), (1, .int v1), (2, .int v2), (3, .int v3)]) (dq D_m_slipsBy_1_ok 14 rfl) 4 rfl (by decide) rfl rfl ?_
  refine q_goto (pc := 129) 12 (dq D_m_slipsBy_1_ok 15 rfl) rfl ?_
  exact T.lsub [1, 2, 3, 4, 0] rfl (hk12 (v0, v1, v2, v3, v4 + 1) h)
noncomputable def b_m_slipsBy_110 (k12 : (Nat × Int32 × Int32 × Int32 × Int32) → Hp → Option (Int32 × Hp)) (v0 : Nat) (v1 : Int32) (v2 : Int32) (v3 : Int32) (v4 : Int32) (s0 : Int32) (s1 : Int32) (s2 : Int32) (s3 : Nat) (h : Hp) : Option (Int32 × Hp) := gd (ai h s3 0 s2) (lt (uI h s3 s2.toNatClampNeg (s1 - s0)) fun h1 => bd (f_m_bit v3 v4 h1) fun r3 h2 => if r3 = 0 then (b_m_slipsBy_126 k12 v0 v1 v2 v3 v4 h2) else (gd (hS h2 v0 = some (.inl 11)) (bd (f_m_slips1 v0 v1 h2) fun _ h4 => b_m_slipsBy_126 k12 v0 v1 v2 v3 v4 h4)))
set_option maxHeartbeats 4000000 in
set_option maxRecDepth 20000 in
theorem tb_m_slipsBy_110 {G : GG} {k12 : (Nat × Int32 × Int32 × Int32 × Int32) → Hp → Option (Int32 × Hp)} (hk12 : ∀ s h, T G M_m_slipsBy 2 cI 12 [(0, .ref s.1), (1, .int s.2.1), (2, .int s.2.2.1), (3, .int s.2.2.2.1), (4, .int s.2.2.2.2)] [] h (k12 s h)) (v0 : Nat) (v1 : Int32) (v2 : Int32) (v3 : Int32) (v4 : Int32) (s0 : Int32) (s1 : Int32) (s2 : Int32) (s3 : Nat) (h : Hp) : T G M_m_slipsBy 2 cI 110 [(0, .ref v0), (1, .int v1), (2, .int v2), (3, .int v3), (4, .int v4)] [.int s0, .int s1, .int s2, .ref s3] h (b_m_slipsBy_110 k12 v0 v1 v2 v3 v4 s0 s1 s2 s3 h) := by
  unfold b_m_slipsBy_110
  refine q_isub (pc := 110) (dq D_m_slipsBy_1_ok 5 rfl) ?_
  refine r_iast (pc := 111) (dq D_m_slipsBy_1_ok 6 rfl) (fun h1 => ?_)
  refine q_iload_n (pc := 112) (dq D_m_slipsBy_1_ok 7 rfl) rfl 3 rfl ?_
  refine q_iload (pc := 113) (dq D_m_slipsBy_1_ok 8 rfl) 4 rfl ?_
  refine r_insI (Mc := M_m_bit) (pc := 115) (rest := []) 0 2 [.int v3, .int v4] (dq D_m_slipsBy_1_ok 9 rfl) lc_m_bit ls_m_bit ml_m_292 rfl rfl rfl rfl (t_m_bit v3 v4 h1) (fun r3 h2 => ?_)
  refine p_if_eq (pc := 118) 126 (dq D_m_slipsBy_1_ok 10 rfl) rfl ?_ ?_
  · exact T.lsub [0, 1, 2, 3, 4] rfl (tb_m_slipsBy_126 hk12 v0 v1 v2 v3 v4 h2)
  · refine q_aload_n (pc := 121) (dq D_m_slipsBy_1_ok 11 rfl) rfl 0 rfl ?_
    refine q_iload_n (pc := 122) (dq D_m_slipsBy_1_ok 12 rfl) rfl 1 rfl ?_
    refine r_invU (Mc := M_m_slips1) (pc := 123) (ci := 11) (rest := []) 1 1 [.int v1] (dq D_m_slipsBy_1_ok 13 rfl) rfl rfl lc_m_slips1 lv_m_slips1_ ml_m_483 rfl rfl rfl rfl (t_m_slips1 v0 v1 h2) (fun _ h4 => ?_)
    exact T.lsub [0, 1, 2, 3, 4] rfl (tb_m_slipsBy_126 hk12 v0 v1 v2 v3 v4 h4)
noncomputable def b_m_slipsBy_77 (k12 : (Nat × Int32 × Int32 × Int32 × Int32) → Hp → Option (Int32 × Hp)) (v0 : Nat) (v1 : Int32) (v2 : Int32) (v3 : Int32) (v4 : Int32) (h : Hp) : Option (Int32 × Hp) := gd (hS h v0 = some (.inl 11)) (bR (hR h v0 16) fun x1 => gd (ai h x1 0 5) (lt (hI h x1 (5 : Int32).toNatClampNeg) fun x2 => gd (ai h x1 0 5) (lt (uI h x1 (5 : Int32).toNatClampNeg (x2 + 1)) fun h3 => gd (hS h3 v0 = some (.inl 11)) (bR (hR h3 v0 16) fun x4 => gd (ai h3 x4 0 6) (lt (hI h3 x4 (6 : Int32).toNatClampNeg) fun x5 => gd (hS h3 v0 = some (.inl 11)) (bR (hR h3 v0 16) fun x6 => gd (ai h3 x6 0 6) (lt (hI h3 x6 (6 : Int32).toNatClampNeg) fun x7 => if x7 ≤ 0 then (b_m_slipsBy_110 k12 v0 v1 v2 v3 v4 0 x5 6 x4 h3) else (b_m_slipsBy_110 k12 v0 v1 v2 v3 v4 1 x5 6 x4 h3))))))))
set_option maxHeartbeats 4000000 in
set_option maxRecDepth 20000 in
theorem tb_m_slipsBy_77 {G : GG} {k12 : (Nat × Int32 × Int32 × Int32 × Int32) → Hp → Option (Int32 × Hp)} (hk12 : ∀ s h, T G M_m_slipsBy 2 cI 12 [(0, .ref s.1), (1, .int s.2.1), (2, .int s.2.2.1), (3, .int s.2.2.2.1), (4, .int s.2.2.2.2)] [] h (k12 s h)) (v0 : Nat) (v1 : Int32) (v2 : Int32) (v3 : Int32) (v4 : Int32) (h : Hp) : T G M_m_slipsBy 2 cI 77 [(0, .ref v0), (1, .int v1), (2, .int v2), (3, .int v3), (4, .int v4)] [] h (b_m_slipsBy_77 k12 v0 v1 v2 v3 v4 h) := by
  unfold b_m_slipsBy_77
  refine q_aload_n (pc := 77) (dq D_m_slipsBy_0_ok 44 rfl) rfl 0 rfl ?_
  refine q_getR (pc := 78) (dq D_m_slipsBy_0_ok 45 rfl) fa_m_21 rfl (fun x1 => ?_)
  refine q_ic5 (pc := 81) (dq D_m_slipsBy_0_ok 46 rfl) ?_
  refine q_dup2 (pc := 82) (dq D_m_slipsBy_0_ok 47 rfl) rfl rfl ?_
  refine r_iald (pc := 83) (dq D_m_slipsBy_0_ok 48 rfl) (fun x2 => ?_)
  refine q_ic1 (pc := 84) (dq D_m_slipsBy_0_ok 49 rfl) ?_
  refine q_iadd (pc := 85) (dq D_m_slipsBy_0_ok 50 rfl) ?_
  refine r_iast (pc := 86) (dq D_m_slipsBy_0_ok 51 rfl) (fun h3 => ?_)
  refine q_aload_n (pc := 87) (dq D_m_slipsBy_0_ok 52 rfl) rfl 0 rfl ?_
  refine q_getR (pc := 88) (dq D_m_slipsBy_0_ok 53 rfl) fa_m_21 rfl (fun x4 => ?_)
  refine q_bipush (pc := 91) (v := 6) (dq D_m_slipsBy_0_ok 54 rfl) (by decide) ?_
  refine q_dup2 (pc := 93) (dq D_m_slipsBy_0_ok 55 rfl) rfl rfl ?_
  refine r_iald (pc := 94) (dq D_m_slipsBy_0_ok 56 rfl) (fun x5 => ?_)
  refine q_aload_n (pc := 95) (dq D_m_slipsBy_0_ok 57 rfl) rfl 0 rfl ?_
  refine q_getR (pc := 96) (dq D_m_slipsBy_0_ok 58 rfl) fa_m_21 rfl (fun x6 => ?_)
  refine q_bipush (pc := 99) (v := 6) (dq D_m_slipsBy_0_ok 59 rfl) (by decide) ?_
  refine r_iald (pc := 101) (dq D_m_slipsBy_1_ok 0 rfl) (fun x7 => ?_)
  refine p_if_le (pc := 102) 109 (dq D_m_slipsBy_1_ok 1 rfl) rfl ?_ ?_
  · refine q_ic0 (pc := 109) (dq D_m_slipsBy_1_ok 4 rfl) ?_
    exact T.lsub [0, 1, 2, 3, 4] rfl (tb_m_slipsBy_110 hk12 v0 v1 v2 v3 v4 0 x5 6 x4 h3)
  · refine q_ic1 (pc := 105) (dq D_m_slipsBy_1_ok 2 rfl) ?_
    refine q_goto (pc := 106) 110 (dq D_m_slipsBy_1_ok 3 rfl) rfl ?_
    exact T.lsub [0, 1, 2, 3, 4] rfl (tb_m_slipsBy_110 hk12 v0 v1 v2 v3 v4 1 x5 6 x4 h3)
noncomputable def b_m_slipsBy_73 (k12 : (Nat × Int32 × Int32 × Int32 × Int32) → Hp → Option (Int32 × Hp)) (v0 : Nat) (v1 : Int32) (v2 : Int32) (v3 : Int32) (v4 : Int32) (s0 : Int32) (s1 : Int32) (s2 : Nat) (h : Hp) : Option (Int32 × Hp) := gd (hS h s2 = some (.inl 11)) (lt (uI h s2 34 (s1 + s0)) fun h1 => b_m_slipsBy_77 k12 v0 v1 v2 v3 v4 h1)
set_option maxHeartbeats 4000000 in
set_option maxRecDepth 20000 in
theorem tb_m_slipsBy_73 {G : GG} {k12 : (Nat × Int32 × Int32 × Int32 × Int32) → Hp → Option (Int32 × Hp)} (hk12 : ∀ s h, T G M_m_slipsBy 2 cI 12 [(0, .ref s.1), (1, .int s.2.1), (2, .int s.2.2.1), (3, .int s.2.2.2.1), (4, .int s.2.2.2.2)] [] h (k12 s h)) (v0 : Nat) (v1 : Int32) (v2 : Int32) (v3 : Int32) (v4 : Int32) (s0 : Int32) (s1 : Int32) (s2 : Nat) (h : Hp) : T G M_m_slipsBy 2 cI 73 [(0, .ref v0), (1, .int v1), (2, .int v2), (3, .int v3), (4, .int v4)] [.int s0, .int s1, .ref s2] h (b_m_slipsBy_73 k12 v0 v1 v2 v3 v4 s0 s1 s2 h) := by
  unfold b_m_slipsBy_73
  refine q_iadd (pc := 73) (dq D_m_slipsBy_0_ok 42 rfl) ?_
  refine r_putI (pc := 74) (dq D_m_slipsBy_0_ok 43 rfl) fp_m_480 rfl rfl (fun h1 => ?_)
  exact T.lsub [0, 1, 2, 3, 4] rfl (tb_m_slipsBy_77 hk12 v0 v1 v2 v3 v4 h1)
noncomputable def b_m_slipsBy_12 (k12 : (Nat × Int32 × Int32 × Int32 × Int32) → Hp → Option (Int32 × Hp)) (v0 : Nat) (v1 : Int32) (v2 : Int32) (v3 : Int32) (v4 : Int32) (h : Hp) : Option (Int32 × Hp) := if v2 ≤ v4 then (gd (hS h v0 = some (.inl 11)) (bR (hR h v0 16) fun x1 => gd (ai h x1 0 v1) (lt (hI h x1 v1.toNatClampNeg) fun x2 => some (x2, h)))) else (gd (hS h v0 = some (.inl 11)) (bR (hR h v0 16) fun x3 => gd (ai h x3 0 5) (lt (hI h x3 (5 : Int32).toNatClampNeg) fun x4 => gd (hS h v0 = some (.inl 11)) (bR (hR h v0 16) fun x5 => gd (ai h x5 0 6) (lt (hI h x5 (6 : Int32).toNatClampNeg) fun x6 => gd (hS h v0 = some (.inl 11)) (bd (f_m_isGoing v0 v1 x4 x6 h) fun r8 h7 => if r8 = 0 then (b_m_slipsBy_77 k12 v0 v1 v2 v3 v4 h7) else (gd (hS h7 v0 = some (.inl 11)) (bR (hR h7 v0 16) fun x9 => gd (hS h7 v0 = some (.inl 11)) (bR (hR h7 v0 16) fun x10 => gd (ai h7 x10 0 v1) (lt (hI h7 x10 v1.toNatClampNeg) fun x11 => gd (hS h7 v0 = some (.inl 11)) (bd (f_m_goesOnce v0 v1 x11 h7) fun r13 h12 => gd (ai h12 x9 0 v1) (lt (uI h12 x9 v1.toNatClampNeg r13) fun h14 => gd (hS h14 v0 = some (.inl 11)) (lt (hI h14 v0 34) fun x15 => gd (hS h14 v0 = some (.inl 11)) (lt (hI h14 v0 21) fun x16 => if x16 = 0 then (b_m_slipsBy_73 k12 v0 v1 v2 v3 v4 0 x15 v0 h14) else (b_m_slipsBy_73 k12 v0 v1 v2 v3 v4 1 x15 v0 h14)))))))))))))))
set_option maxHeartbeats 4000000 in
set_option maxRecDepth 20000 in
theorem tb_m_slipsBy_12 {G : GG} {k12 : (Nat × Int32 × Int32 × Int32 × Int32) → Hp → Option (Int32 × Hp)} (hk12 : ∀ s h, T G M_m_slipsBy 2 cI 12 [(0, .ref s.1), (1, .int s.2.1), (2, .int s.2.2.1), (3, .int s.2.2.2.1), (4, .int s.2.2.2.2)] [] h (k12 s h)) (v0 : Nat) (v1 : Int32) (v2 : Int32) (v3 : Int32) (v4 : Int32) (h : Hp) : T G M_m_slipsBy 2 cI 12 [(0, .ref v0), (1, .int v1), (2, .int v2), (3, .int v3), (4, .int v4)] [] h (b_m_slipsBy_12 k12 v0 v1 v2 v3 v4 h) := by
  unfold b_m_slipsBy_12
  refine q_iload (pc := 12) (dq D_m_slipsBy_0_ok 7 rfl) 4 rfl ?_
  refine q_iload_n (pc := 14) (dq D_m_slipsBy_0_ok 8 rfl) rfl 2 rfl ?_
  refine q_ic_ge (pc := 15) 132 (dq D_m_slipsBy_0_ok 9 rfl) rfl ?_ ?_
  · refine q_aload_n (pc := 132) (dq D_m_slipsBy_1_ok 16 rfl) rfl 0 rfl ?_
    refine q_getR (pc := 133) (dq D_m_slipsBy_1_ok 17 rfl) fa_m_21 rfl (fun x1 => ?_)
    refine q_iload_n (pc := 136) (dq D_m_slipsBy_1_ok 18 rfl) rfl 1 rfl ?_
    refine r_iald (pc := 137) (dq D_m_slipsBy_1_ok 19 rfl) (fun x2 => ?_)
    exact r_reti (pc := 138) (dq D_m_slipsBy_1_ok 20 rfl) rfl
  · refine q_aload_n (pc := 18) (dq D_m_slipsBy_0_ok 10 rfl) rfl 0 rfl ?_
    refine q_iload_n (pc := 19) (dq D_m_slipsBy_0_ok 11 rfl) rfl 1 rfl ?_
    refine q_aload_n (pc := 20) (dq D_m_slipsBy_0_ok 12 rfl) rfl 0 rfl ?_
    refine q_getR (pc := 21) (dq D_m_slipsBy_0_ok 13 rfl) fa_m_21 rfl (fun x3 => ?_)
    refine q_ic5 (pc := 24) (dq D_m_slipsBy_0_ok 14 rfl) ?_
    refine r_iald (pc := 25) (dq D_m_slipsBy_0_ok 15 rfl) (fun x4 => ?_)
    refine q_aload_n (pc := 26) (dq D_m_slipsBy_0_ok 16 rfl) rfl 0 rfl ?_
    refine q_getR (pc := 27) (dq D_m_slipsBy_0_ok 17 rfl) fa_m_21 rfl (fun x5 => ?_)
    refine q_bipush (pc := 30) (v := 6) (dq D_m_slipsBy_0_ok 18 rfl) (by decide) ?_
    refine r_iald (pc := 32) (dq D_m_slipsBy_0_ok 19 rfl) (fun x6 => ?_)
    refine r_invI (Mc := M_m_isGoing) (pc := 33) (ci := 11) (rest := []) 0 3 [.int v1, .int x4, .int x6] (dq D_m_slipsBy_0_ok 20 rfl) rfl rfl lc_m_isGoing lv_m_isGoing_ ml_m_377 rfl rfl rfl rfl (t_m_isGoing v0 v1 x4 x6 h) (fun r8 h7 => ?_)
    refine p_if_eq (pc := 36) 77 (dq D_m_slipsBy_0_ok 21 rfl) rfl ?_ ?_
    · exact T.lsub [0, 1, 2, 3, 4] rfl (tb_m_slipsBy_77 hk12 v0 v1 v2 v3 v4 h7)
    · refine q_aload_n (pc := 39) (dq D_m_slipsBy_0_ok 22 rfl) rfl 0 rfl ?_
      refine q_getR (pc := 40) (dq D_m_slipsBy_0_ok 23 rfl) fa_m_21 rfl (fun x9 => ?_)
      refine q_iload_n (pc := 43) (dq D_m_slipsBy_0_ok 24 rfl) rfl 1 rfl ?_
      refine q_aload_n (pc := 44) (dq D_m_slipsBy_0_ok 25 rfl) rfl 0 rfl ?_
      refine q_iload_n (pc := 45) (dq D_m_slipsBy_0_ok 26 rfl) rfl 1 rfl ?_
      refine q_aload_n (pc := 46) (dq D_m_slipsBy_0_ok 27 rfl) rfl 0 rfl ?_
      refine q_getR (pc := 47) (dq D_m_slipsBy_0_ok 28 rfl) fa_m_21 rfl (fun x10 => ?_)
      refine q_iload_n (pc := 50) (dq D_m_slipsBy_0_ok 29 rfl) rfl 1 rfl ?_
      refine r_iald (pc := 51) (dq D_m_slipsBy_0_ok 30 rfl) (fun x11 => ?_)
      refine r_invI (Mc := M_m_goesOnce) (pc := 52) (ci := 11) (rest := [.int v1, .ref x9]) 1 2 [.int v1, .int x11] (dq D_m_slipsBy_0_ok 31 rfl) rfl rfl lc_m_goesOnce lv_m_goesOnce_ ml_m_374 rfl rfl rfl rfl (t_m_goesOnce v0 v1 x11 h7) (fun r13 h12 => ?_)
      refine r_iast (pc := 55) (dq D_m_slipsBy_0_ok 32 rfl) (fun h14 => ?_)
      refine q_aload_n (pc := 56) (dq D_m_slipsBy_0_ok 33 rfl) rfl 0 rfl ?_
      refine q_dup (pc := 57) (dq D_m_slipsBy_0_ok 34 rfl) rfl ?_
      refine r_getI (pc := 58) (dq D_m_slipsBy_0_ok 35 rfl) fa_m_480 rfl (fun x15 => ?_)
      refine q_aload_n (pc := 61) (dq D_m_slipsBy_0_ok 36 rfl) rfl 0 rfl ?_
      refine r_getI (pc := 62) (dq D_m_slipsBy_0_ok 37 rfl) fa_m_363 rfl (fun x16 => ?_)
      refine p_if_eq (pc := 65) 72 (dq D_m_slipsBy_0_ok 38 rfl) rfl ?_ ?_
      · refine q_ic0 (pc := 72) (dq D_m_slipsBy_0_ok 41 rfl) ?_
        exact T.lsub [0, 1, 2, 3, 4] rfl (tb_m_slipsBy_73 hk12 v0 v1 v2 v3 v4 0 x15 v0 h14)
      · refine q_ic1 (pc := 68) (dq D_m_slipsBy_0_ok 39 rfl) ?_
        refine q_goto (pc := 69) 73 (dq D_m_slipsBy_0_ok 40 rfl) rfl ?_
        exact T.lsub [0, 1, 2, 3, 4] rfl (tb_m_slipsBy_73 hk12 v0 v1 v2 v3 v4 1 x15 v0 h14)
noncomputable def l_m_slipsBy_12 : Nat → (Nat × Int32 × Int32 × Int32 × Int32) → Hp → Option (Int32 × Hp) := lp (fun k12 s h => b_m_slipsBy_12 k12 s.1 s.2.1 s.2.2.1 s.2.2.2.1 s.2.2.2.2 h)
set_option maxHeartbeats 4000000 in
set_option maxRecDepth 20000 in
theorem tl_m_slipsBy_12 {G : GG} (n : Nat) (s : Nat × Int32 × Int32 × Int32 × Int32) (h : Hp) : T G M_m_slipsBy 2 cI 12 [(0, .ref s.1), (1, .int s.2.1), (2, .int s.2.2.1), (3, .int s.2.2.2.1), (4, .int s.2.2.2.2)] [] h (l_m_slipsBy_12 n s h) :=
  T.loop (lsOf := fun s => [(0, .ref s.1), (1, .int s.2.1), (2, .int s.2.2.1), (3, .int s.2.2.2.1), (4, .int s.2.2.2.2)]) (fun k12 hk12 s h => tb_m_slipsBy_12 hk12 s.1 s.2.1 s.2.2.1 s.2.2.2.1 s.2.2.2.2 h) n s h
noncomputable def f_m_slipsBy (v0 : Nat) (v1 : Int32) (v2 : Int32) (v3 : Int32) (h : Hp) : Option (Int32 × Hp) := gd (hS h v0 = some (.inl 11)) (bd (f_m_works v0 h) fun _ h1 => gd (hS h1 v0 = some (.inl 11)) (lt (uI h1 v0 34 0) fun h3 => lt (0 : Int32) fun y4 => l_m_slipsBy_12 FU (v0, v1, v2, v3, y4) h3))
set_option maxHeartbeats 4000000 in
set_option maxRecDepth 20000 in
theorem t_m_slipsBy {G : GG} (v0 : Nat) (v1 : Int32) (v2 : Int32) (v3 : Int32) (h : Hp) : Mt G M_m_slipsBy 2 [.ref v0, .int v1, .int v2, .int v3] cI h (f_m_slipsBy v0 v1 v2 v3 h) := by
  refine Mt.ofF (by decide +kernel) rfl (Rt.i rfl rfl) ?_
  show T G M_m_slipsBy 2 cI 0 [(0, .ref v0), (1, .int v1), (2, .int v2), (3, .int v3)] [] h _
  unfold f_m_slipsBy
  refine q_aload_n (pc := 0) (dq D_m_slipsBy_0_ok 0 rfl) rfl 0 rfl ?_
  refine r_invU (Mc := M_m_works) (pc := 1) (ci := 11) (rest := []) 0 0 [] (dq D_m_slipsBy_0_ok 1 rfl) rfl rfl lc_m_works lv_m_works_ ml_m_383 rfl rfl rfl rfl (t_m_works v0 h) (fun _ h1 => ?_)
  refine q_aload_n (pc := 4) (dq D_m_slipsBy_0_ok 2 rfl) rfl 0 rfl ?_
  refine q_ic0 (pc := 5) (dq D_m_slipsBy_0_ok 3 rfl) ?_
  refine r_putI (pc := 6) (dq D_m_slipsBy_0_ok 4 rfl) fp_m_480 rfl rfl (fun h3 => ?_)
  refine q_ic0 (pc := 9) (dq D_m_slipsBy_0_ok 5 rfl) ?_
  refine r_nmI (fun y4 => ?_)
  refine q_istore (pc := 10) (ls' := [(4, .int y4), (0, .ref v0), (1, .int v1), (2, .int v2), (3, .int v3)]) (dq D_m_slipsBy_0_ok 6 rfl) rfl rfl ?_
  exact T.lsub [1, 2, 3, 4, 0] rfl (tl_m_slipsBy_12 FU (v0, v1, v2, v3, y4) h3)
noncomputable def b_m_part_43 (k5 : (Nat × Int32 × Int32 × Int64 × Int32) → Hp → Option (Int64 × Hp)) (v0 : Nat) (v1 : Int32) (v2 : Int32) (v5 : Int32) (s0 : Int64) (s1 : Int64) (h : Hp) : Option (Int64 × Hp) := lt (s1 * s0 : Int64) fun y1 => k5 (v0, v1, v2, y1, v5 + 1) h
set_option maxHeartbeats 4000000 in
set_option maxRecDepth 20000 in
theorem tb_m_part_43 {G : GG} {k5 : (Nat × Int32 × Int32 × Int64 × Int32) → Hp → Option (Int64 × Hp)} (hk5 : ∀ s h, T G M_m_part 1 cL 5 [(0, .ref s.1), (1, .int s.2.1), (2, .int s.2.2.1), (3, .long s.2.2.2.1), (5, .int s.2.2.2.2)] [] h (k5 s h)) (v0 : Nat) (v1 : Int32) (v2 : Int32) (v5 : Int32) (s0 : Int64) (s1 : Int64) (h : Hp) : T G M_m_part 1 cL 43 [(0, .ref v0), (1, .int v1), (2, .int v2), (5, .int v5)] [.long s0, .long s1] h (b_m_part_43 k5 v0 v1 v2 v5 s0 s1 h) := by
  unfold b_m_part_43
  refine q_lmul (pc := 43) (dq D_m_part_0_ok 23 rfl) ?_
  refine r_nmL (fun y1 => ?_)
  refine q_lstore_n (pc := 44) (ls' := [(3, .long y1), (0, .ref v0), (1, .int v1), (2, .int v2), (5, .int v5)]) (dq D_m_part_0_ok 24 rfl) rfl rfl rfl ?_
  refine q_iinc (pc := 45) (v := (1)) (ls' := [(5, .int (v5 + 1)), (3, .long y1), (0, .ref v0), (1, .int v1), (2, .int v2)]) (dq D_m_part_0_ok 25 rfl) 4 rfl (by decide) rfl rfl ?_
  refine q_goto (pc := 48) 5 (dq D_m_part_0_ok 26 rfl) rfl ?_
  exact T.lsub [2, 3, 4, 1, 0] rfl (hk5 (v0, v1, v2, y1, v5 + 1) h)
noncomputable def b_m_part_5 (k5 : (Nat × Int32 × Int32 × Int64 × Int32) → Hp → Option (Int64 × Hp)) (v0 : Nat) (v1 : Int32) (v2 : Int32) (v3 : Int64) (v5 : Int32) (h : Hp) : Option (Int64 × Hp) := if v1 ≤ v5 then (some (v3, h)) else (bd (f_m_bit v2 v5 h) fun r2 h1 => if r2 = 0 then (gd (hS h1 v0 = some (.inl 11)) (bR (hR h1 v0 3) fun x3 => gd (hS h1 x3 = some (.inl 12)) (lt (hI h1 x3 1) fun x4 => b_m_part_43 k5 v0 v1 v2 v5 ((100 - x4).toInt64) v3 h1))) else (gd (hS h1 v0 = some (.inl 11)) (bR (hR h1 v0 3) fun x5 => gd (hS h1 x5 = some (.inl 12)) (lt (hI h1 x5 1) fun x6 => b_m_part_43 k5 v0 v1 v2 v5 x6.toInt64 v3 h1))))
set_option maxHeartbeats 4000000 in
set_option maxRecDepth 20000 in
theorem tb_m_part_5 {G : GG} {k5 : (Nat × Int32 × Int32 × Int64 × Int32) → Hp → Option (Int64 × Hp)} (hk5 : ∀ s h, T G M_m_part 1 cL 5 [(0, .ref s.1), (1, .int s.2.1), (2, .int s.2.2.1), (3, .long s.2.2.2.1), (5, .int s.2.2.2.2)] [] h (k5 s h)) (v0 : Nat) (v1 : Int32) (v2 : Int32) (v3 : Int64) (v5 : Int32) (h : Hp) : T G M_m_part 1 cL 5 [(0, .ref v0), (1, .int v1), (2, .int v2), (3, .long v3), (5, .int v5)] [] h (b_m_part_5 k5 v0 v1 v2 v3 v5 h) := by
  unfold b_m_part_5
  refine q_iload (pc := 5) (dq D_m_part_0_ok 4 rfl) 4 rfl ?_
  refine q_iload_n (pc := 7) (dq D_m_part_0_ok 5 rfl) rfl 1 rfl ?_
  refine q_ic_ge (pc := 8) 51 (dq D_m_part_0_ok 6 rfl) rfl ?_ ?_
  · refine q_lload_n (pc := 51) (dq D_m_part_0_ok 27 rfl) rfl 3 rfl ?_
    exact r_retl (pc := 52) (dq D_m_part_0_ok 28 rfl) rfl
  · refine q_lload_n (pc := 11) (dq D_m_part_0_ok 7 rfl) rfl 3 rfl ?_
    refine q_iload_n (pc := 12) (dq D_m_part_0_ok 8 rfl) rfl 2 rfl ?_
    refine q_iload (pc := 13) (dq D_m_part_0_ok 9 rfl) 4 rfl ?_
    refine r_insI (Mc := M_m_bit) (pc := 15) (rest := [.long v3]) 0 2 [.int v2, .int v5] (dq D_m_part_0_ok 10 rfl) lc_m_bit ls_m_bit ml_m_292 rfl rfl rfl rfl (t_m_bit v2 v5 h) (fun r2 h1 => ?_)
    refine p_if_eq (pc := 18) 32 (dq D_m_part_0_ok 11 rfl) rfl ?_ ?_
    · refine q_bipush (pc := 32) (v := 100) (dq D_m_part_0_ok 17 rfl) (by decide) ?_
      refine q_aload_n (pc := 34) (dq D_m_part_0_ok 18 rfl) rfl 0 rfl ?_
      refine q_getR (pc := 35) (dq D_m_part_0_ok 19 rfl) fa_m_348 rfl (fun x3 => ?_)
      refine r_getI (pc := 38) (dq D_m_part_0_ok 20 rfl) fa_m_239 rfl (fun x4 => ?_)
      refine q_isub (pc := 41) (dq D_m_part_0_ok 21 rfl) ?_
      refine q_i2l (pc := 42) (dq D_m_part_0_ok 22 rfl) ?_
      exact T.lsub [0, 1, 2, 4] rfl (tb_m_part_43 hk5 v0 v1 v2 v5 ((100 - x4).toInt64) v3 h1)
    · refine q_aload_n (pc := 21) (dq D_m_part_0_ok 12 rfl) rfl 0 rfl ?_
      refine q_getR (pc := 22) (dq D_m_part_0_ok 13 rfl) fa_m_348 rfl (fun x5 => ?_)
      refine r_getI (pc := 25) (dq D_m_part_0_ok 14 rfl) fa_m_239 rfl (fun x6 => ?_)
      refine q_i2l (pc := 28) (dq D_m_part_0_ok 15 rfl) ?_
      refine q_goto (pc := 29) 43 (dq D_m_part_0_ok 16 rfl) rfl ?_
      exact T.lsub [0, 1, 2, 4] rfl (tb_m_part_43 hk5 v0 v1 v2 v5 x6.toInt64 v3 h1)
noncomputable def l_m_part_5 : Nat → (Nat × Int32 × Int32 × Int64 × Int32) → Hp → Option (Int64 × Hp) := lp (fun k5 s h => b_m_part_5 k5 s.1 s.2.1 s.2.2.1 s.2.2.2.1 s.2.2.2.2 h)
set_option maxHeartbeats 4000000 in
set_option maxRecDepth 20000 in
theorem tl_m_part_5 {G : GG} (n : Nat) (s : Nat × Int32 × Int32 × Int64 × Int32) (h : Hp) : T G M_m_part 1 cL 5 [(0, .ref s.1), (1, .int s.2.1), (2, .int s.2.2.1), (3, .long s.2.2.2.1), (5, .int s.2.2.2.2)] [] h (l_m_part_5 n s h) :=
  T.loop (lsOf := fun s => [(0, .ref s.1), (1, .int s.2.1), (2, .int s.2.2.1), (3, .long s.2.2.2.1), (5, .int s.2.2.2.2)]) (fun k5 hk5 s h => tb_m_part_5 hk5 s.1 s.2.1 s.2.2.1 s.2.2.2.1 s.2.2.2.2 h) n s h
noncomputable def f_m_part (v0 : Nat) (v1 : Int32) (v2 : Int32) (h : Hp) : Option (Int64 × Hp) := lt (1 : Int64) fun y1 => lt (0 : Int32) fun y2 => l_m_part_5 FU (v0, v1, v2, y1, y2) h
set_option maxHeartbeats 4000000 in
set_option maxRecDepth 20000 in
theorem t_m_part {G : GG} (v0 : Nat) (v1 : Int32) (v2 : Int32) (h : Hp) : Mt G M_m_part 1 [.ref v0, .int v1, .int v2] cL h (f_m_part v0 v1 v2 h) := by
  refine Mt.ofF (by decide +kernel) rfl (Rt.l rfl rfl) ?_
  show T G M_m_part 1 cL 0 [(0, .ref v0), (1, .int v1), (2, .int v2)] [] h _
  unfold f_m_part
  refine q_lconst (pc := 0) (v := 1) (dq D_m_part_0_ok 0 rfl) (by decide) ?_
  refine r_nmL (fun y1 => ?_)
  refine q_lstore_n (pc := 1) (ls' := [(3, .long y1), (0, .ref v0), (1, .int v1), (2, .int v2)]) (dq D_m_part_0_ok 1 rfl) rfl rfl rfl ?_
  refine q_ic0 (pc := 2) (dq D_m_part_0_ok 2 rfl) ?_
  refine r_nmI (fun y2 => ?_)
  refine q_istore (pc := 3) (ls' := [(5, .int y2), (3, .long y1), (0, .ref v0), (1, .int v1), (2, .int v2)]) (dq D_m_part_0_ok 3 rfl) rfl rfl ?_
  exact T.lsub [2, 3, 4, 1, 0] rfl (tl_m_part_5 FU (v0, v1, v2, y1, y2) h)
noncomputable def b_m_wholeOf_4 (k4 : (Int32 × Int64 × Int32) → Hp → Option (Int64 × Hp)) (v0 : Int32) (v1 : Int64) (v3 : Int32) (h : Hp) : Option (Int64 × Hp) := if v0 ≤ v3 then (some (v1, h)) else (lt (v1 * 100 : Int64) fun y1 => k4 (v0, y1, v3 + 1) h)
set_option maxHeartbeats 4000000 in
set_option maxRecDepth 20000 in
theorem tb_m_wholeOf_4 {G : GG} {k4 : (Int32 × Int64 × Int32) → Hp → Option (Int64 × Hp)} (hk4 : ∀ s h, T G M_m_wholeOf 0 cL 4 [(0, .int s.1), (1, .long s.2.1), (3, .int s.2.2)] [] h (k4 s h)) (v0 : Int32) (v1 : Int64) (v3 : Int32) (h : Hp) : T G M_m_wholeOf 0 cL 4 [(0, .int v0), (1, .long v1), (3, .int v3)] [] h (b_m_wholeOf_4 k4 v0 v1 v3 h) := by
  unfold b_m_wholeOf_4
  refine q_iload_n (pc := 4) (dq D_m_wholeOf_0_ok 4 rfl) rfl 2 rfl ?_
  refine q_iload_n (pc := 5) (dq D_m_wholeOf_0_ok 5 rfl) rfl 0 rfl ?_
  refine q_ic_ge (pc := 6) 21 (dq D_m_wholeOf_0_ok 6 rfl) rfl ?_ ?_
  · refine q_lload_n (pc := 21) (dq D_m_wholeOf_0_ok 13 rfl) rfl 1 rfl ?_
    exact r_retl (pc := 22) (dq D_m_wholeOf_0_ok 14 rfl) rfl
  · refine q_lload_n (pc := 9) (dq D_m_wholeOf_0_ok 7 rfl) rfl 1 rfl ?_
    refine q_ldc2 (pc := 10) (v := 100) (dq D_m_wholeOf_0_ok 8 rfl) lk_m_486 ?_
    refine q_lmul (pc := 13) (dq D_m_wholeOf_0_ok 9 rfl) ?_
    refine r_nmL (fun y1 => ?_)
    refine q_lstore_n (pc := 14) (ls' := [(1, .long y1), (0, .int v0), (3, .int v3)]) (dq D_m_wholeOf_0_ok 10 rfl) rfl rfl rfl ?_
    refine q_iinc (pc := 15) (v := (1)) (ls' := [(3, .int (v3 + 1)), (1, .long y1), (0, .int v0)]) (dq D_m_wholeOf_0_ok 11 rfl) 2 rfl (by decide) rfl rfl ?_
    refine q_goto (pc := 18) 4 (dq D_m_wholeOf_0_ok 12 rfl) rfl ?_
    exact T.lsub [2, 1, 0] rfl (hk4 (v0, y1, v3 + 1) h)
noncomputable def l_m_wholeOf_4 : Nat → (Int32 × Int64 × Int32) → Hp → Option (Int64 × Hp) := lp (fun k4 s h => b_m_wholeOf_4 k4 s.1 s.2.1 s.2.2 h)
set_option maxHeartbeats 4000000 in
set_option maxRecDepth 20000 in
theorem tl_m_wholeOf_4 {G : GG} (n : Nat) (s : Int32 × Int64 × Int32) (h : Hp) : T G M_m_wholeOf 0 cL 4 [(0, .int s.1), (1, .long s.2.1), (3, .int s.2.2)] [] h (l_m_wholeOf_4 n s h) :=
  T.loop (lsOf := fun s => [(0, .int s.1), (1, .long s.2.1), (3, .int s.2.2)]) (fun k4 hk4 s h => tb_m_wholeOf_4 hk4 s.1 s.2.1 s.2.2 h) n s h
noncomputable def f_m_wholeOf (v0 : Int32) (h : Hp) : Option (Int64 × Hp) := lt (1 : Int64) fun y1 => lt (0 : Int32) fun y2 => l_m_wholeOf_4 FU (v0, y1, y2) h
set_option maxHeartbeats 4000000 in
set_option maxRecDepth 20000 in
theorem t_m_wholeOf {G : GG} (v0 : Int32) (h : Hp) : Mt G M_m_wholeOf 0 [.int v0] cL h (f_m_wholeOf v0 h) := by
  refine Mt.ofF (by decide +kernel) rfl (Rt.l rfl rfl) ?_
  show T G M_m_wholeOf 0 cL 0 [(0, .int v0)] [] h _
  unfold f_m_wholeOf
  refine q_lconst (pc := 0) (v := 1) (dq D_m_wholeOf_0_ok 0 rfl) (by decide) ?_
  refine r_nmL (fun y1 => ?_)
  refine q_lstore_n (pc := 1) (ls' := [(1, .long y1), (0, .int v0)]) (dq D_m_wholeOf_0_ok 1 rfl) rfl rfl rfl ?_
  refine q_ic0 (pc := 2) (dq D_m_wholeOf_0_ok 2 rfl) ?_
  refine r_nmI (fun y2 => ?_)
  refine q_istore_n (pc := 3) (ls' := [(3, .int y2), (1, .long y1), (0, .int v0)]) (dq D_m_wholeOf_0_ok 3 rfl) rfl rfl rfl ?_
  exact T.lsub [2, 1, 0] rfl (tl_m_wholeOf_4 FU (v0, y1, y2) h)
noncomputable def b_m_likely_95 (k62 : (Nat × Int32 × Int32 × Int32 × Int32 × Int64 × Int32) → Hp → Option (Int64 × Hp)) (v0 : Nat) (v1 : Int32) (v2 : Int32) (v3 : Int32) (v4 : Int32) (v7 : Int32) (s0 : Int64) (s1 : Int64) (h : Hp) : Option (Int64 × Hp) := lt (s1 + s0 : Int64) fun y1 => k62 (v0, v1, v2, v3, v4, y1, v7 + 1) h
set_option maxHeartbeats 4000000 in
set_option maxRecDepth 20000 in
theorem tb_m_likely_95 {G : GG} {k62 : (Nat × Int32 × Int32 × Int32 × Int32 × Int64 × Int32) → Hp → Option (Int64 × Hp)} (hk62 : ∀ s h, T G M_m_likely 3 cL 62 [(0, .ref s.1), (1, .int s.2.1), (2, .int s.2.2.1), (3, .int s.2.2.2.1), (4, .int s.2.2.2.2.1), (5, .long s.2.2.2.2.2.1), (7, .int s.2.2.2.2.2.2)] [] h (k62 s h)) (v0 : Nat) (v1 : Int32) (v2 : Int32) (v3 : Int32) (v4 : Int32) (v7 : Int32) (s0 : Int64) (s1 : Int64) (h : Hp) : T G M_m_likely 3 cL 95 [(0, .ref v0), (1, .int v1), (2, .int v2), (3, .int v3), (4, .int v4), (7, .int v7)] [.long s0, .long s1] h (b_m_likely_95 k62 v0 v1 v2 v3 v4 v7 s0 s1 h) := by
  unfold b_m_likely_95
  refine q_ladd (pc := 95) (dq D_m_likely_0_ok 56 rfl) ?_
  refine r_nmL (fun y1 => ?_)
  refine q_lstore (pc := 96) (ls' := [(5, .long y1), (0, .ref v0), (1, .int v1), (2, .int v2), (3, .int v3), (4, .int v4), (7, .int v7)]) (dq D_m_likely_0_ok 57 rfl) rfl rfl ?_
  refine q_iinc (pc := 98) (v := (1)) (ls' := [(7, .int (v7 + 1)), (5, .long y1), (0, .ref v0), (1, .int v1), (2, .int v2), (3, .int v3), (4, .int v4)]) (dq D_m_likely_0_ok 58 rfl) 6 rfl (by decide) rfl rfl ?_
  refine q_goto (pc := 101) 62 (dq D_m_likely_0_ok 59 rfl) rfl ?_
  exact T.lsub [2, 3, 4, 5, 6, 1, 0] rfl (hk62 (v0, v1, v2, v3, v4, y1, v7 + 1) h)
noncomputable def b_m_likely_62 (k62 : (Nat × Int32 × Int32 × Int32 × Int32 × Int64 × Int32) → Hp → Option (Int64 × Hp)) (v0 : Nat) (v1 : Int32) (v2 : Int32) (v3 : Int32) (v4 : Int32) (v5 : Int64) (v7 : Int32) (h : Hp) : Option (Int64 × Hp) := if ((1 : Int32) <<< (v3 &&& 31)) ≤ v7 then (bd (f_m_wholeOf v3 h) fun r2 h1 => gd (hS h1 v0 = some (.inl 11)) (bd (f_m_fraction v0 v5 r2 v4 h1) fun r4 h3 => some (r4, h3))) else (gd (hS h v0 = some (.inl 11)) (bd (f_m_slipsBy v0 v1 v3 v7 h) fun r6 h5 => if r6 = v2 then (gd (hS h5 v0 = some (.inl 11)) (bd (f_m_part v0 v3 v7 h5) fun r8 h7 => b_m_likely_95 k62 v0 v1 v2 v3 v4 v7 r8 v5 h7)) else (b_m_likely_95 k62 v0 v1 v2 v3 v4 v7 0 v5 h5)))
set_option maxHeartbeats 4000000 in
set_option maxRecDepth 20000 in
theorem tb_m_likely_62 {G : GG} {k62 : (Nat × Int32 × Int32 × Int32 × Int32 × Int64 × Int32) → Hp → Option (Int64 × Hp)} (hk62 : ∀ s h, T G M_m_likely 3 cL 62 [(0, .ref s.1), (1, .int s.2.1), (2, .int s.2.2.1), (3, .int s.2.2.2.1), (4, .int s.2.2.2.2.1), (5, .long s.2.2.2.2.2.1), (7, .int s.2.2.2.2.2.2)] [] h (k62 s h)) (v0 : Nat) (v1 : Int32) (v2 : Int32) (v3 : Int32) (v4 : Int32) (v5 : Int64) (v7 : Int32) (h : Hp) : T G M_m_likely 3 cL 62 [(0, .ref v0), (1, .int v1), (2, .int v2), (3, .int v3), (4, .int v4), (5, .long v5), (7, .int v7)] [] h (b_m_likely_62 k62 v0 v1 v2 v3 v4 v5 v7 h) := by
  unfold b_m_likely_62
  refine q_iload (pc := 62) (dq D_m_likely_0_ok 37 rfl) 6 rfl ?_
  refine q_ic1 (pc := 64) (dq D_m_likely_0_ok 38 rfl) ?_
  refine q_iload_n (pc := 65) (dq D_m_likely_0_ok 39 rfl) rfl 3 rfl ?_
  refine q_ishl (pc := 66) (dq D_m_likely_0_ok 40 rfl) ?_
  refine q_ic_ge (pc := 67) 104 (dq D_m_likely_0_ok 41 rfl) rfl ?_ ?_
  · refine q_aload_n (pc := 104) (dq D_m_likely_1_ok 0 rfl) rfl 0 rfl ?_
    refine q_lload (pc := 105) (dq D_m_likely_1_ok 1 rfl) 5 rfl ?_
    refine q_iload_n (pc := 107) (dq D_m_likely_1_ok 2 rfl) rfl 3 rfl ?_
    refine r_insL (Mc := M_m_wholeOf) (pc := 108) (rest := [.long v5, .ref v0]) 0 1 [.int v3] (dq D_m_likely_1_ok 3 rfl) lc_m_wholeOf ls_m_wholeOf ml_m_495 rfl rfl rfl rfl (t_m_wholeOf v3 h) (fun r2 h1 => ?_)
    refine q_iload (pc := 111) (dq D_m_likely_1_ok 4 rfl) 4 rfl ?_
    refine r_invL (Mc := M_m_fraction) (pc := 113) (ci := 11) (rest := []) 1 3 [.long v5, .long r2, .int v4] (dq D_m_likely_1_ok 5 rfl) rfl rfl lc_m_fraction lv_m_fraction_ ml_m_499 rfl rfl rfl rfl (t_m_fraction v0 v5 r2 v4 h1) (fun r4 h3 => ?_)
    exact r_retl (pc := 116) (dq D_m_likely_1_ok 6 rfl) rfl
  · refine q_lload (pc := 70) (dq D_m_likely_0_ok 42 rfl) 5 rfl ?_
    refine q_aload_n (pc := 72) (dq D_m_likely_0_ok 43 rfl) rfl 0 rfl ?_
    refine q_iload_n (pc := 73) (dq D_m_likely_0_ok 44 rfl) rfl 1 rfl ?_
    refine q_iload_n (pc := 74) (dq D_m_likely_0_ok 45 rfl) rfl 3 rfl ?_
    refine q_iload (pc := 75) (dq D_m_likely_0_ok 46 rfl) 6 rfl ?_
    refine r_invI (Mc := M_m_slipsBy) (pc := 77) (ci := 11) (rest := [.long v5]) 2 3 [.int v1, .int v3, .int v7] (dq D_m_likely_0_ok 47 rfl) rfl rfl lc_m_slipsBy lv_m_slipsBy_ ml_m_488 rfl rfl rfl rfl (t_m_slipsBy v0 v1 v3 v7 h) (fun r6 h5 => ?_)
    refine q_iload_n (pc := 80) (dq D_m_likely_0_ok 48 rfl) rfl 2 rfl ?_
    refine q_ic_ne (pc := 81) 94 (dq D_m_likely_0_ok 49 rfl) rfl ?_ ?_
    · refine q_lconst (pc := 94) (v := 0) (dq D_m_likely_0_ok 55 rfl) (by decide) ?_
      exact T.lsub [0, 1, 2, 3, 4, 6] rfl (tb_m_likely_95 hk62 v0 v1 v2 v3 v4 v7 0 v5 h5)
    · refine q_aload_n (pc := 84) (dq D_m_likely_0_ok 50 rfl) rfl 0 rfl ?_
      refine q_iload_n (pc := 85) (dq D_m_likely_0_ok 51 rfl) rfl 3 rfl ?_
      refine q_iload (pc := 86) (dq D_m_likely_0_ok 52 rfl) 6 rfl ?_
      refine r_invL (Mc := M_m_part) (pc := 88) (ci := 11) (rest := [.long v5]) 1 2 [.int v3, .int v7] (dq D_m_likely_0_ok 53 rfl) rfl rfl lc_m_part lv_m_part_ ml_m_491 rfl rfl rfl rfl (t_m_part v0 v3 v7 h5) (fun r8 h7 => ?_)
      refine q_goto (pc := 91) 95 (dq D_m_likely_0_ok 54 rfl) rfl ?_
      exact T.lsub [0, 1, 2, 3, 4, 6] rfl (tb_m_likely_95 hk62 v0 v1 v2 v3 v4 v7 r8 v5 h7)
noncomputable def l_m_likely_62 : Nat → (Nat × Int32 × Int32 × Int32 × Int32 × Int64 × Int32) → Hp → Option (Int64 × Hp) := lp (fun k62 s h => b_m_likely_62 k62 s.1 s.2.1 s.2.2.1 s.2.2.2.1 s.2.2.2.2.1 s.2.2.2.2.2.1 s.2.2.2.2.2.2 h)
set_option maxHeartbeats 4000000 in
set_option maxRecDepth 20000 in
theorem tl_m_likely_62 {G : GG} (n : Nat) (s : Nat × Int32 × Int32 × Int32 × Int32 × Int64 × Int32) (h : Hp) : T G M_m_likely 3 cL 62 [(0, .ref s.1), (1, .int s.2.1), (2, .int s.2.2.1), (3, .int s.2.2.2.1), (4, .int s.2.2.2.2.1), (5, .long s.2.2.2.2.2.1), (7, .int s.2.2.2.2.2.2)] [] h (l_m_likely_62 n s h) :=
  T.loop (lsOf := fun s => [(0, .ref s.1), (1, .int s.2.1), (2, .int s.2.2.1), (3, .int s.2.2.2.1), (4, .int s.2.2.2.2.1), (5, .long s.2.2.2.2.2.1), (7, .int s.2.2.2.2.2.2)]) (fun k62 hk62 s h => tb_m_likely_62 hk62 s.1 s.2.1 s.2.2.1 s.2.2.2.1 s.2.2.2.2.1 s.2.2.2.2.2.1 s.2.2.2.2.2.2 h) n s h
noncomputable def b_m_likely_49 (v0 : Nat) (h : Hp) : Option (Int64 × Hp) := gd (hS h v0 = some (.inl 11)) (bd (f_m_refused v0 (2 : Int32) h) fun r2 h1 => some (r2.toInt64, h1))
set_option maxHeartbeats 4000000 in
set_option maxRecDepth 20000 in
theorem tb_m_likely_49 {G : GG} (v0 : Nat) (h : Hp) : T G M_m_likely 3 cL 49 [(0, .ref v0)] [] h (b_m_likely_49 v0 h) := by
  unfold b_m_likely_49
  refine q_aload_n (pc := 49) (dq D_m_likely_0_ok 28 rfl) rfl 0 rfl ?_
  refine q_ic2 (pc := 50) (dq D_m_likely_0_ok 29 rfl) ?_
  refine r_invI (Mc := M_m_refused) (pc := 51) (ci := 11) (rest := []) 0 1 [.int 2] (dq D_m_likely_0_ok 30 rfl) rfl rfl lc_m_refused lv_m_refused_ ml_m_60 rfl rfl rfl rfl (t_m_refused v0 (2 : Int32) h) (fun r2 h1 => ?_)
  refine q_i2l (pc := 54) (dq D_m_likely_0_ok 31 rfl) ?_
  exact r_retl (pc := 55) (dq D_m_likely_0_ok 32 rfl) rfl
noncomputable def f_m_likely (v0 : Nat) (v1 : Int32) (v2 : Int32) (v3 : Int32) (v4 : Int32) (h : Hp) : Option (Int64 × Hp) := gd (hS h v0 = some (.inl 11)) (lt (uI h v0 0 0) fun h1 => gd (hS h1 v0 = some (.inl 11)) (bd (f_m_isWheel v0 v1 h1) fun r3 h2 => if r3 = 0 then (gd (hS h2 v0 = some (.inl 11)) (bd (f_m_refused v0 (1 : Int32) h2) fun r14 h13 => some (r14.toInt64, h13))) else (gd (hS h2 v0 = some (.inl 11)) (bR (hR h2 v0 3) fun x4 => gd (hS h2 x4 = some (.inl 12)) (bR (hR h2 x4 11) fun x5 => gd (ai h2 x5 0 v1) (lt (hI h2 x5 v1.toNatClampNeg) fun x6 => bd (f_m_in v2 (0 : Int32) (x6 - 1) h2) fun r8 h7 => if r8 = 0 then (b_m_likely_49 v0 h7) else (bd (f_m_in v3 (0 : Int32) (6 : Int32) h7) fun r10 h9 => if r10 = 0 then (b_m_likely_49 v0 h9) else (lt (0 : Int64) fun y11 => lt (0 : Int32) fun y12 => l_m_likely_62 FU (v0, v1, v2, v3, v4, y11, y12) h9))))))))
set_option maxHeartbeats 4000000 in
set_option maxRecDepth 20000 in
theorem t_m_likely {G : GG} (v0 : Nat) (v1 : Int32) (v2 : Int32) (v3 : Int32) (v4 : Int32) (h : Hp) : Mt G M_m_likely 3 [.ref v0, .int v1, .int v2, .int v3, .int v4] cL h (f_m_likely v0 v1 v2 v3 v4 h) := by
  refine Mt.ofF (by decide +kernel) rfl (Rt.l rfl rfl) ?_
  show T G M_m_likely 3 cL 0 [(0, .ref v0), (1, .int v1), (2, .int v2), (3, .int v3), (4, .int v4)] [] h _
  unfold f_m_likely
  refine q_aload_n (pc := 0) (dq D_m_likely_0_ok 0 rfl) rfl 0 rfl ?_
  refine q_ic0 (pc := 1) (dq D_m_likely_0_ok 1 rfl) ?_
  refine r_putI (pc := 2) (dq D_m_likely_0_ok 2 rfl) fp_m_54 rfl rfl (fun h1 => ?_)
  refine q_aload_n (pc := 5) (dq D_m_likely_0_ok 3 rfl) rfl 0 rfl ?_
  refine q_iload_n (pc := 6) (dq D_m_likely_0_ok 4 rfl) rfl 1 rfl ?_
  refine r_invI (Mc := M_m_isWheel) (pc := 7) (ci := 11) (rest := []) 0 1 [.int v1] (dq D_m_likely_0_ok 5 rfl) rfl rfl lc_m_isWheel lv_m_isWheel_ ml_m_357 rfl rfl rfl rfl (t_m_isWheel v0 v1 h1) (fun r3 h2 => ?_)
  refine p_if_ne (pc := 10) 20 (dq D_m_likely_0_ok 6 rfl) rfl ?_ ?_
  · refine q_iload_n (pc := 20) (dq D_m_likely_0_ok 12 rfl) rfl 2 rfl ?_
    refine q_ic0 (pc := 21) (dq D_m_likely_0_ok 13 rfl) ?_
    refine q_aload_n (pc := 22) (dq D_m_likely_0_ok 14 rfl) rfl 0 rfl ?_
    refine q_getR (pc := 23) (dq D_m_likely_0_ok 15 rfl) fa_m_348 rfl (fun x4 => ?_)
    refine q_getR (pc := 26) (dq D_m_likely_0_ok 16 rfl) fa_m_269 rfl (fun x5 => ?_)
    refine q_iload_n (pc := 29) (dq D_m_likely_0_ok 17 rfl) rfl 1 rfl ?_
    refine r_iald (pc := 30) (dq D_m_likely_0_ok 18 rfl) (fun x6 => ?_)
    refine q_ic1 (pc := 31) (dq D_m_likely_0_ok 19 rfl) ?_
    refine q_isub (pc := 32) (dq D_m_likely_0_ok 20 rfl) ?_
    refine r_insI (Mc := M_m_in) (pc := 33) (rest := []) 0 3 [.int v2, .int 0, .int (x6 - 1)] (dq D_m_likely_0_ok 21 rfl) lc_m_in ls_m_in ml_m_133 rfl rfl rfl rfl (t_m_in v2 (0 : Int32) (x6 - 1) h2) (fun r8 h7 => ?_)
    refine p_if_eq (pc := 36) 49 (dq D_m_likely_0_ok 22 rfl) rfl ?_ ?_
    · exact T.lsub [0] rfl (tb_m_likely_49 v0 h7)
    · refine q_iload_n (pc := 39) (dq D_m_likely_0_ok 23 rfl) rfl 3 rfl ?_
      refine q_ic0 (pc := 40) (dq D_m_likely_0_ok 24 rfl) ?_
      refine q_bipush (pc := 41) (v := 6) (dq D_m_likely_0_ok 25 rfl) (by decide) ?_
      refine r_insI (Mc := M_m_in) (pc := 43) (rest := []) 0 3 [.int v3, .int 0, .int 6] (dq D_m_likely_0_ok 26 rfl) lc_m_in ls_m_in ml_m_133 rfl rfl rfl rfl (t_m_in v3 (0 : Int32) (6 : Int32) h7) (fun r10 h9 => ?_)
      refine p_if_ne (pc := 46) 56 (dq D_m_likely_0_ok 27 rfl) rfl ?_ ?_
      · refine q_lconst (pc := 56) (v := 0) (dq D_m_likely_0_ok 33 rfl) (by decide) ?_
        refine r_nmL (fun y11 => ?_)
        refine q_lstore (pc := 57) (ls' := [(5, .long y11), (0, .ref v0), (1, .int v1), (2, .int v2), (3, .int v3), (4, .int v4)]) (dq D_m_likely_0_ok 34 rfl) rfl rfl ?_
        refine q_ic0 (pc := 59) (dq D_m_likely_0_ok 35 rfl) ?_
        refine r_nmI (fun y12 => ?_)
        refine q_istore (pc := 60) (ls' := [(7, .int y12), (5, .long y11), (0, .ref v0), (1, .int v1), (2, .int v2), (3, .int v3), (4, .int v4)]) (dq D_m_likely_0_ok 36 rfl) rfl rfl ?_
        exact T.lsub [2, 3, 4, 5, 6, 1, 0] rfl (tl_m_likely_62 FU (v0, v1, v2, v3, v4, y11, y12) h9)
      · exact T.lsub [0] rfl (tb_m_likely_49 v0 h9)
  · refine q_aload_n (pc := 13) (dq D_m_likely_0_ok 7 rfl) rfl 0 rfl ?_
    refine q_ic1 (pc := 14) (dq D_m_likely_0_ok 8 rfl) ?_
    refine r_invI (Mc := M_m_refused) (pc := 15) (ci := 11) (rest := []) 0 1 [.int 1] (dq D_m_likely_0_ok 9 rfl) rfl rfl lc_m_refused lv_m_refused_ ml_m_60 rfl rfl rfl rfl (t_m_refused v0 (1 : Int32) h2) (fun r14 h13 => ?_)
    refine q_i2l (pc := 18) (dq D_m_likely_0_ok 10 rfl) ?_
    exact r_retl (pc := 19) (dq D_m_likely_0_ok 11 rfl) rfl
noncomputable def b_m_jerkMean_39 (k39 : (Nat × Int32 × Int32 × Int32 × Int64 × Int32) → Hp → Option (Int64 × Hp)) (v0 : Nat) (v1 : Int32) (v2 : Int32) (v3 : Int32) (v5 : Int64) (v7 : Int32) (h : Hp) : Option (Int64 × Hp) := if ((1 : Int32) <<< (v2 &&& 31)) ≤ v7 then (bd (f_m_wholeOf v2 h) fun r2 h1 => gd (hS h1 v0 = some (.inl 11)) (bd (f_m_fraction v0 v5 r2 v3 h1) fun r4 h3 => some (r4, h3))) else (gd (hS h v0 = some (.inl 11)) (bd (f_m_slipsBy v0 v1 v2 v7 h) fun r6 h5 => gd (hS h5 v0 = some (.inl 11)) (bd (f_m_part v0 v2 v7 h5) fun r8 h7 => gd (hS h7 v0 = some (.inl 11)) (lt (hI h7 v0 34) fun x9 => lt (v5 + (r8 * x9.toInt64) : Int64) fun y10 => k39 (v0, v1, v2, v3, y10, v7 + 1) h7))))
set_option maxHeartbeats 4000000 in
set_option maxRecDepth 20000 in
theorem tb_m_jerkMean_39 {G : GG} {k39 : (Nat × Int32 × Int32 × Int32 × Int64 × Int32) → Hp → Option (Int64 × Hp)} (hk39 : ∀ s h, T G M_m_jerkMean 3 cL 39 [(0, .ref s.1), (1, .int s.2.1), (2, .int s.2.2.1), (3, .int s.2.2.2.1), (5, .long s.2.2.2.2.1), (7, .int s.2.2.2.2.2)] [] h (k39 s h)) (v0 : Nat) (v1 : Int32) (v2 : Int32) (v3 : Int32) (v5 : Int64) (v7 : Int32) (h : Hp) : T G M_m_jerkMean 3 cL 39 [(0, .ref v0), (1, .int v1), (2, .int v2), (3, .int v3), (5, .long v5), (7, .int v7)] [] h (b_m_jerkMean_39 k39 v0 v1 v2 v3 v5 v7 h) := by
  unfold b_m_jerkMean_39
  refine q_iload (pc := 39) (dq D_m_jerkMean_0_ok 23 rfl) 5 rfl ?_
  refine q_ic1 (pc := 41) (dq D_m_jerkMean_0_ok 24 rfl) ?_
  refine q_iload_n (pc := 42) (dq D_m_jerkMean_0_ok 25 rfl) rfl 2 rfl ?_
  refine q_ishl (pc := 43) (dq D_m_jerkMean_0_ok 26 rfl) ?_
  refine q_ic_ge (pc := 44) 80 (dq D_m_jerkMean_0_ok 27 rfl) rfl ?_ ?_
  · refine q_aload_n (pc := 80) (dq D_m_jerkMean_0_ok 47 rfl) rfl 0 rfl ?_
    refine q_lload (pc := 81) (dq D_m_jerkMean_0_ok 48 rfl) 4 rfl ?_
    refine q_iload_n (pc := 83) (dq D_m_jerkMean_0_ok 49 rfl) rfl 2 rfl ?_
    refine r_insL (Mc := M_m_wholeOf) (pc := 84) (rest := [.long v5, .ref v0]) 0 1 [.int v2] (dq D_m_jerkMean_0_ok 50 rfl) lc_m_wholeOf ls_m_wholeOf ml_m_495 rfl rfl rfl rfl (t_m_wholeOf v2 h) (fun r2 h1 => ?_)
    refine q_iload_n (pc := 87) (dq D_m_jerkMean_0_ok 51 rfl) rfl 3 rfl ?_
    refine r_invL (Mc := M_m_fraction) (pc := 88) (ci := 11) (rest := []) 1 3 [.long v5, .long r2, .int v3] (dq D_m_jerkMean_0_ok 52 rfl) rfl rfl lc_m_fraction lv_m_fraction_ ml_m_499 rfl rfl rfl rfl (t_m_fraction v0 v5 r2 v3 h1) (fun r4 h3 => ?_)
    exact r_retl (pc := 91) (dq D_m_jerkMean_0_ok 53 rfl) rfl
  · refine q_aload_n (pc := 47) (dq D_m_jerkMean_0_ok 28 rfl) rfl 0 rfl ?_
    refine q_iload_n (pc := 48) (dq D_m_jerkMean_0_ok 29 rfl) rfl 1 rfl ?_
    refine q_iload_n (pc := 49) (dq D_m_jerkMean_0_ok 30 rfl) rfl 2 rfl ?_
    refine q_iload (pc := 50) (dq D_m_jerkMean_0_ok 31 rfl) 5 rfl ?_
    refine r_invI (Mc := M_m_slipsBy) (pc := 52) (ci := 11) (rest := []) 2 3 [.int v1, .int v2, .int v7] (dq D_m_jerkMean_0_ok 32 rfl) rfl rfl lc_m_slipsBy lv_m_slipsBy_ ml_m_488 rfl rfl rfl rfl (t_m_slipsBy v0 v1 v2 v7 h) (fun r6 h5 => ?_)
    refine q_pop (pc := 55) (dq D_m_jerkMean_0_ok 33 rfl) rfl ?_
    refine q_lload (pc := 56) (dq D_m_jerkMean_0_ok 34 rfl) 4 rfl ?_
    refine q_aload_n (pc := 58) (dq D_m_jerkMean_0_ok 35 rfl) rfl 0 rfl ?_
    refine q_iload_n (pc := 59) (dq D_m_jerkMean_0_ok 36 rfl) rfl 2 rfl ?_
    refine q_iload (pc := 60) (dq D_m_jerkMean_0_ok 37 rfl) 5 rfl ?_
    refine r_invL (Mc := M_m_part) (pc := 62) (ci := 11) (rest := [.long v5]) 1 2 [.int v2, .int v7] (dq D_m_jerkMean_0_ok 38 rfl) rfl rfl lc_m_part lv_m_part_ ml_m_491 rfl rfl rfl rfl (t_m_part v0 v2 v7 h5) (fun r8 h7 => ?_)
    refine q_aload_n (pc := 65) (dq D_m_jerkMean_0_ok 39 rfl) rfl 0 rfl ?_
    refine r_getI (pc := 66) (dq D_m_jerkMean_0_ok 40 rfl) fa_m_480 rfl (fun x9 => ?_)
    refine q_i2l (pc := 69) (dq D_m_jerkMean_0_ok 41 rfl) ?_
    refine q_lmul (pc := 70) (dq D_m_jerkMean_0_ok 42 rfl) ?_
    refine q_ladd (pc := 71) (dq D_m_jerkMean_0_ok 43 rfl) ?_
    refine r_nmL (fun y10 => ?_)
    refine q_lstore (pc := 72) (ls' := [(5, .long y10), (0, .ref v0), (1, .int v1), (2, .int v2), (3, .int v3), (7, .int v7)]) (dq D_m_jerkMean_0_ok 44 rfl) rfl rfl ?_
    refine q_iinc (pc := 74) (v := (1)) (ls' := [(7, .int (v7 + 1)), (5, .long y10), (0, .ref v0), (1, .int v1), (2, .int v2), (3, .int v3)]) (dq D_m_jerkMean_0_ok 45 rfl) 5 rfl (by decide) rfl rfl ?_
    refine q_goto (pc := 77) 39 (dq D_m_jerkMean_0_ok 46 rfl) rfl ?_
    exact T.lsub [2, 3, 4, 5, 1, 0] rfl (hk39 (v0, v1, v2, v3, y10, v7 + 1) h7)
noncomputable def l_m_jerkMean_39 : Nat → (Nat × Int32 × Int32 × Int32 × Int64 × Int32) → Hp → Option (Int64 × Hp) := lp (fun k39 s h => b_m_jerkMean_39 k39 s.1 s.2.1 s.2.2.1 s.2.2.2.1 s.2.2.2.2.1 s.2.2.2.2.2 h)
set_option maxHeartbeats 4000000 in
set_option maxRecDepth 20000 in
theorem tl_m_jerkMean_39 {G : GG} (n : Nat) (s : Nat × Int32 × Int32 × Int32 × Int64 × Int32) (h : Hp) : T G M_m_jerkMean 3 cL 39 [(0, .ref s.1), (1, .int s.2.1), (2, .int s.2.2.1), (3, .int s.2.2.2.1), (5, .long s.2.2.2.2.1), (7, .int s.2.2.2.2.2)] [] h (l_m_jerkMean_39 n s h) :=
  T.loop (lsOf := fun s => [(0, .ref s.1), (1, .int s.2.1), (2, .int s.2.2.1), (3, .int s.2.2.2.1), (5, .long s.2.2.2.2.1), (7, .int s.2.2.2.2.2)]) (fun k39 hk39 s h => tb_m_jerkMean_39 hk39 s.1 s.2.1 s.2.2.1 s.2.2.2.1 s.2.2.2.2.1 s.2.2.2.2.2 h) n s h
noncomputable def f_m_jerkMean (v0 : Nat) (v1 : Int32) (v2 : Int32) (v3 : Int32) (h : Hp) : Option (Int64 × Hp) := gd (hS h v0 = some (.inl 11)) (lt (uI h v0 0 0) fun h1 => gd (hS h1 v0 = some (.inl 11)) (bd (f_m_isWheel v0 v1 h1) fun r3 h2 => gd (hS h2 v0 = some (.inl 11)) (bd (f_m_refusesDays v0 r3 v2 (0 : Int32) (6 : Int32) h2) fun r5 h4 => if r5 ≤ 0 then (lt (0 : Int64) fun y6 => lt (0 : Int32) fun y7 => l_m_jerkMean_39 FU (v0, v1, v2, v3, y6, y7) h4) else (gd (hS h4 v0 = some (.inl 11)) (bd (f_m_refused v0 r5 h4) fun r9 h8 => some (r9.toInt64, h8))))))
set_option maxHeartbeats 4000000 in
set_option maxRecDepth 20000 in
theorem t_m_jerkMean {G : GG} (v0 : Nat) (v1 : Int32) (v2 : Int32) (v3 : Int32) (h : Hp) : Mt G M_m_jerkMean 3 [.ref v0, .int v1, .int v2, .int v3] cL h (f_m_jerkMean v0 v1 v2 v3 h) := by
  refine Mt.ofF (by decide +kernel) rfl (Rt.l rfl rfl) ?_
  show T G M_m_jerkMean 3 cL 0 [(0, .ref v0), (1, .int v1), (2, .int v2), (3, .int v3)] [] h _
  unfold f_m_jerkMean
  refine q_aload_n (pc := 0) (dq D_m_jerkMean_0_ok 0 rfl) rfl 0 rfl ?_
  refine q_ic0 (pc := 1) (dq D_m_jerkMean_0_ok 1 rfl) ?_
  refine r_putI (pc := 2) (dq D_m_jerkMean_0_ok 2 rfl) fp_m_54 rfl rfl (fun h1 => ?_)
  refine q_aload_n (pc := 5) (dq D_m_jerkMean_0_ok 3 rfl) rfl 0 rfl ?_
  refine q_aload_n (pc := 6) (dq D_m_jerkMean_0_ok 4 rfl) rfl 0 rfl ?_
  refine q_iload_n (pc := 7) (dq D_m_jerkMean_0_ok 5 rfl) rfl 1 rfl ?_
  refine r_invI (Mc := M_m_isWheel) (pc := 8) (ci := 11) (rest := [.ref v0]) 0 1 [.int v1] (dq D_m_jerkMean_0_ok 6 rfl) rfl rfl lc_m_isWheel lv_m_isWheel_ ml_m_357 rfl rfl rfl rfl (t_m_isWheel v0 v1 h1) (fun r3 h2 => ?_)
  refine q_iload_n (pc := 11) (dq D_m_jerkMean_0_ok 7 rfl) rfl 2 rfl ?_
  refine q_ic0 (pc := 12) (dq D_m_jerkMean_0_ok 8 rfl) ?_
  refine q_bipush (pc := 13) (v := 6) (dq D_m_jerkMean_0_ok 9 rfl) (by decide) ?_
  refine r_invI (Mc := M_m_refusesDays) (pc := 15) (ci := 11) (rest := []) 1 4 [.int r3, .int v2, .int 0, .int 6] (dq D_m_jerkMean_0_ok 10 rfl) rfl rfl lc_m_refusesDays lv_m_refusesDays_ ml_m_392 rfl rfl rfl rfl (t_m_refusesDays v0 r3 v2 (0 : Int32) (6 : Int32) h2) (fun r5 h4 => ?_)
  refine q_istore (pc := 18) (ls' := [(4, .int r5), (0, .ref v0), (1, .int v1), (2, .int v2), (3, .int v3)]) (dq D_m_jerkMean_0_ok 11 rfl) rfl rfl ?_
  refine q_iload (pc := 20) (dq D_m_jerkMean_0_ok 12 rfl) 0 rfl ?_
  refine p_if_le (pc := 22) 33 (dq D_m_jerkMean_0_ok 13 rfl) rfl ?_ ?_
  · refine q_lconst (pc := 33) (v := 0) (dq D_m_jerkMean_0_ok 19 rfl) (by decide) ?_
    refine r_nmL (fun y6 => ?_)
    refine q_lstore (pc := 34) (ls' := [(5, .long y6), (4, .int r5), (0, .ref v0), (1, .int v1), (2, .int v2), (3, .int v3)]) (dq D_m_jerkMean_0_ok 20 rfl) rfl rfl ?_
    refine q_ic0 (pc := 36) (dq D_m_jerkMean_0_ok 21 rfl) ?_
    refine r_nmI (fun y7 => ?_)
    refine q_istore (pc := 37) (ls' := [(7, .int y7), (5, .long y6), (4, .int r5), (0, .ref v0), (1, .int v1), (2, .int v2), (3, .int v3)]) (dq D_m_jerkMean_0_ok 22 rfl) rfl rfl ?_
    exact T.lsub [3, 4, 5, 6, 1, 0] rfl (tl_m_jerkMean_39 FU (v0, v1, v2, v3, y6, y7) h4)
  · refine q_aload_n (pc := 25) (dq D_m_jerkMean_0_ok 14 rfl) rfl 1 rfl ?_
    refine q_iload (pc := 26) (dq D_m_jerkMean_0_ok 15 rfl) 0 rfl ?_
    refine r_invI (Mc := M_m_refused) (pc := 28) (ci := 11) (rest := []) 0 1 [.int r5] (dq D_m_jerkMean_0_ok 16 rfl) rfl rfl lc_m_refused lv_m_refused_ ml_m_60 rfl rfl rfl rfl (t_m_refused v0 r5 h4) (fun r9 h8 => ?_)
    refine q_i2l (pc := 31) (dq D_m_jerkMean_0_ok 17 rfl) ?_
    exact r_retl (pc := 32) (dq D_m_jerkMean_0_ok 18 rfl) rfl
noncomputable def b_m_yearsAll_122 (k18 : (Nat × Int32 × Int32 × Int32 × Int32 × Int32) → Hp → Option (Int32 × Hp)) (v0 : Nat) (v2 : Int32) (v3 : Int32) (v4 : Int32) (v6 : Int32) (s0 : Int32) (s1 : Int32) (h : Hp) : Option (Int32 × Hp) := lt (s1 + s0 : Int32) fun y1 => k18 (v0, v2, v3, v4, y1, v6 + 1) h
set_option maxHeartbeats 4000000 in
set_option maxRecDepth 20000 in
theorem tb_m_yearsAll_122 {G : GG} {k18 : (Nat × Int32 × Int32 × Int32 × Int32 × Int32) → Hp → Option (Int32 × Hp)} (hk18 : ∀ s h, T G M_m_yearsAll 3 cI 18 [(0, .ref s.1), (2, .int s.2.1), (3, .int s.2.2.1), (4, .int s.2.2.2.1), (5, .int s.2.2.2.2.1), (6, .int s.2.2.2.2.2)] [] h (k18 s h)) (v0 : Nat) (v2 : Int32) (v3 : Int32) (v4 : Int32) (v6 : Int32) (s0 : Int32) (s1 : Int32) (h : Hp) : T G M_m_yearsAll 3 cI 122 [(0, .ref v0), (2, .int v2), (3, .int v3), (4, .int v4), (6, .int v6)] [.int s0, .int s1] h (b_m_yearsAll_122 k18 v0 v2 v3 v4 v6 s0 s1 h) := by
  unfold b_m_yearsAll_122
  refine q_iadd (pc := 122) (dq D_m_yearsAll_1_ok 4 rfl) ?_
  refine r_nmI (fun y1 => ?_)
  refine q_istore (pc := 123) (ls' := [(5, .int y1), (0, .ref v0), (2, .int v2), (3, .int v3), (4, .int v4), (6, .int v6)]) (dq D_m_yearsAll_1_ok 5 rfl) rfl rfl ?_
  refine q_iinc (pc := 125) (v := (1)) (ls' := [(6, .int (v6 + 1)), (5, .int y1), (0, .ref v0), (2, .int v2), (3, .int v3), (4, .int v4)]) (dq D_m_yearsAll_1_ok 6 rfl) 5 rfl (by decide) rfl rfl ?_
  refine q_goto (pc := 128) 18 (dq D_m_yearsAll_1_ok 7 rfl) rfl ?_
  exact T.lsub [2, 3, 4, 5, 1, 0] rfl (hk18 (v0, v2, v3, v4, y1, v6 + 1) h)
noncomputable def b_m_yearsAll_121 (k18 : (Nat × Int32 × Int32 × Int32 × Int32 × Int32) → Hp → Option (Int32 × Hp)) (v0 : Nat) (v2 : Int32) (v3 : Int32) (v4 : Int32) (v6 : Int32) (s0 : Int32) (h : Hp) : Option (Int32 × Hp) := b_m_yearsAll_122 k18 v0 v2 v3 v4 v6 0 s0 h
set_option maxHeartbeats 4000000 in
set_option maxRecDepth 20000 in
theorem tb_m_yearsAll_121 {G : GG} {k18 : (Nat × Int32 × Int32 × Int32 × Int32 × Int32) → Hp → Option (Int32 × Hp)} (hk18 : ∀ s h, T G M_m_yearsAll 3 cI 18 [(0, .ref s.1), (2, .int s.2.1), (3, .int s.2.2.1), (4, .int s.2.2.2.1), (5, .int s.2.2.2.2.1), (6, .int s.2.2.2.2.2)] [] h (k18 s h)) (v0 : Nat) (v2 : Int32) (v3 : Int32) (v4 : Int32) (v6 : Int32) (s0 : Int32) (h : Hp) : T G M_m_yearsAll 3 cI 121 [(0, .ref v0), (2, .int v2), (3, .int v3), (4, .int v4), (6, .int v6)] [.int s0] h (b_m_yearsAll_121 k18 v0 v2 v3 v4 v6 s0 h) := by
  unfold b_m_yearsAll_121
  refine q_ic0 (pc := 121) (dq D_m_yearsAll_1_ok 3 rfl) ?_
  exact T.lsub [0, 1, 2, 3, 4] rfl (tb_m_yearsAll_122 hk18 v0 v2 v3 v4 v6 0 s0 h)
noncomputable def b_m_yearsAll_96 (k18 : (Nat × Int32 × Int32 × Int32 × Int32 × Int32) → Hp → Option (Int32 × Hp)) (k32 : (Nat × Int32 × Int32 × Int32 × Int32 × Int32 × Int32) → Hp → Option (Int32 × Hp)) (v0 : Nat) (v2 : Int32) (v3 : Int32) (v4 : Int32) (v5 : Int32) (v6 : Int32) (v7 : Int32) (h : Hp) : Option (Int32 × Hp) := k32 (v0, v2, v3, v4, v5, v6, v7 + 1) h
set_option maxHeartbeats 4000000 in
set_option maxRecDepth 20000 in
theorem tb_m_yearsAll_96 {G : GG} {k18 : (Nat × Int32 × Int32 × Int32 × Int32 × Int32) → Hp → Option (Int32 × Hp)} (hk18 : ∀ s h, T G M_m_yearsAll 3 cI 18 [(0, .ref s.1), (2, .int s.2.1), (3, .int s.2.2.1), (4, .int s.2.2.2.1), (5, .int s.2.2.2.2.1), (6, .int s.2.2.2.2.2)] [] h (k18 s h)) {k32 : (Nat × Int32 × Int32 × Int32 × Int32 × Int32 × Int32) → Hp → Option (Int32 × Hp)} (hk32 : ∀ s h, T G M_m_yearsAll 3 cI 32 [(0, .ref s.1), (2, .int s.2.1), (3, .int s.2.2.1), (4, .int s.2.2.2.1), (5, .int s.2.2.2.2.1), (6, .int s.2.2.2.2.2.1), (7, .int s.2.2.2.2.2.2)] [] h (k32 s h)) (v0 : Nat) (v2 : Int32) (v3 : Int32) (v4 : Int32) (v5 : Int32) (v6 : Int32) (v7 : Int32) (h : Hp) : T G M_m_yearsAll 3 cI 96 [(0, .ref v0), (2, .int v2), (3, .int v3), (4, .int v4), (5, .int v5), (6, .int v6), (7, .int v7)] [] h (b_m_yearsAll_96 k18 k32 v0 v2 v3 v4 v5 v6 v7 h) := by
  unfold b_m_yearsAll_96
  refine q_iinc (pc := 96) (v := (1)) (ls' := [(7, .int (v7 + 1)), (0, .ref v0), (2, .int v2), (3, .int v3), (4, .int v4), (5, .int v5), (6, .int v6)]) (dq D_m_yearsAll_0_ok 51 rfl) 6 rfl (by decide) rfl rfl ?_
  refine q_goto (pc := 99) 32 (dq D_m_yearsAll_0_ok 52 rfl) rfl ?_
  exact T.lsub [1, 2, 3, 4, 5, 6, 0] rfl (hk32 (v0, v2, v3, v4, v5, v6, v7 + 1) h)
noncomputable def b_m_yearsAll_32 (k18 : (Nat × Int32 × Int32 × Int32 × Int32 × Int32) → Hp → Option (Int32 × Hp)) (k32 : (Nat × Int32 × Int32 × Int32 × Int32 × Int32 × Int32) → Hp → Option (Int32 × Hp)) (v0 : Nat) (v2 : Int32) (v3 : Int32) (v4 : Int32) (v5 : Int32) (v6 : Int32) (v7 : Int32) (h : Hp) : Option (Int32 × Hp) := gd (hS h v0 = some (.inl 11)) (bR (hR h v0 3) fun x1 => gd (hS h x1 = some (.inl 12)) (lt (hI h x1 2) fun x2 => if x2 ≤ v7 then (if v3 = ((-1)) then (b_m_yearsAll_121 k18 v0 v2 v3 v4 v6 v5 h) else (gd (hS h v0 = some (.inl 11)) (bd (f_m_isOn v0 v3 h) fun r4 h3 => if r4 = 0 then (b_m_yearsAll_121 k18 v0 v2 v3 v4 v6 v5 h3) else (b_m_yearsAll_122 k18 v0 v2 v3 v4 v6 1 v5 h3)))) else (gd (¬ (65537 : Int64) = 0) (lt ((lrm ((75 * v4.toInt64) + 74) 65537).toInt32 : Int32) fun y5 => gd (¬ (100 : Int32) = 0) (gd (hS h v0 = some (.inl 11)) (bR (hR h v0 3) fun x6 => gd (hS h x6 = some (.inl 12)) (lt (hI h x6 1) fun x7 => if (irm y5 100) < x7 then (gd (hS h v0 = some (.inl 11)) (bd (f_m_slips1 v0 v7 h) fun _ h8 => gd (hS h8 v0 = some (.inl 11)) (lt (hI h8 v0 35) fun x10 => gd (hS h8 v0 = some (.inl 11)) (lt (uI h8 v0 35 (x10 + 1)) fun h11 => b_m_yearsAll_96 k18 k32 v0 v2 v3 y5 v5 v6 v7 h11)))) else (b_m_yearsAll_96 k18 k32 v0 v2 v3 y5 v5 v6 v7 h))))))))
set_option maxHeartbeats 4000000 in
set_option maxRecDepth 20000 in
theorem tb_m_yearsAll_32 {G : GG} {k18 : (Nat × Int32 × Int32 × Int32 × Int32 × Int32) → Hp → Option (Int32 × Hp)} (hk18 : ∀ s h, T G M_m_yearsAll 3 cI 18 [(0, .ref s.1), (2, .int s.2.1), (3, .int s.2.2.1), (4, .int s.2.2.2.1), (5, .int s.2.2.2.2.1), (6, .int s.2.2.2.2.2)] [] h (k18 s h)) {k32 : (Nat × Int32 × Int32 × Int32 × Int32 × Int32 × Int32) → Hp → Option (Int32 × Hp)} (hk32 : ∀ s h, T G M_m_yearsAll 3 cI 32 [(0, .ref s.1), (2, .int s.2.1), (3, .int s.2.2.1), (4, .int s.2.2.2.1), (5, .int s.2.2.2.2.1), (6, .int s.2.2.2.2.2.1), (7, .int s.2.2.2.2.2.2)] [] h (k32 s h)) (v0 : Nat) (v2 : Int32) (v3 : Int32) (v4 : Int32) (v5 : Int32) (v6 : Int32) (v7 : Int32) (h : Hp) : T G M_m_yearsAll 3 cI 32 [(0, .ref v0), (2, .int v2), (3, .int v3), (4, .int v4), (5, .int v5), (6, .int v6), (7, .int v7)] [] h (b_m_yearsAll_32 k18 k32 v0 v2 v3 v4 v5 v6 v7 h) := by
  unfold b_m_yearsAll_32
  refine q_iload (pc := 32) (dq D_m_yearsAll_0_ok 19 rfl) 6 rfl ?_
  refine q_aload_n (pc := 34) (dq D_m_yearsAll_0_ok 20 rfl) rfl 0 rfl ?_
  refine q_getR (pc := 35) (dq D_m_yearsAll_0_ok 21 rfl) fa_m_348 rfl (fun x1 => ?_)
  refine r_getI (pc := 38) (dq D_m_yearsAll_0_ok 22 rfl) fa_m_205 rfl (fun x2 => ?_)
  refine q_ic_ge (pc := 41) 102 (dq D_m_yearsAll_0_ok 23 rfl) rfl ?_ ?_
  · refine q_iload (pc := 102) (dq D_m_yearsAll_0_ok 53 rfl) 4 rfl ?_
    refine q_iload_n (pc := 104) (dq D_m_yearsAll_0_ok 54 rfl) rfl 2 rfl ?_
    refine q_icm1 (pc := 105) (dq D_m_yearsAll_0_ok 55 rfl) ?_
    refine q_ic_eq (pc := 106) 121 (dq D_m_yearsAll_0_ok 56 rfl) rfl ?_ ?_
    · exact T.lsub [0, 1, 2, 3, 5] rfl (tb_m_yearsAll_121 hk18 v0 v2 v3 v4 v6 v5 h)
    · refine q_aload_n (pc := 109) (dq D_m_yearsAll_0_ok 57 rfl) rfl 0 rfl ?_
      refine q_iload_n (pc := 110) (dq D_m_yearsAll_0_ok 58 rfl) rfl 2 rfl ?_
      refine r_invI (Mc := M_m_isOn) (pc := 111) (ci := 11) (rest := [.int v5]) 1 1 [.int v3] (dq D_m_yearsAll_0_ok 59 rfl) rfl rfl lc_m_isOn lv_m_isOn_ ml_m_385 rfl rfl rfl rfl (t_m_isOn v0 v3 h) (fun r4 h3 => ?_)
      refine p_if_eq (pc := 114) 121 (dq D_m_yearsAll_1_ok 0 rfl) rfl ?_ ?_
      · exact T.lsub [0, 1, 2, 3, 5] rfl (tb_m_yearsAll_121 hk18 v0 v2 v3 v4 v6 v5 h3)
      · refine q_ic1 (pc := 117) (dq D_m_yearsAll_1_ok 1 rfl) ?_
        refine q_goto (pc := 118) 122 (dq D_m_yearsAll_1_ok 2 rfl) rfl ?_
        exact T.lsub [0, 1, 2, 3, 5] rfl (tb_m_yearsAll_122 hk18 v0 v2 v3 v4 v6 1 v5 h3)
  · refine q_ldc2 (pc := 44) (v := 75) (dq D_m_yearsAll_0_ok 24 rfl) lk_m_506 ?_
    refine q_iload (pc := 47) (dq D_m_yearsAll_0_ok 25 rfl) 3 rfl ?_
    refine q_i2l (pc := 49) (dq D_m_yearsAll_0_ok 26 rfl) ?_
    refine q_lmul (pc := 50) (dq D_m_yearsAll_0_ok 27 rfl) ?_
    refine q_ldc2 (pc := 51) (v := 74) (dq D_m_yearsAll_0_ok 28 rfl) lk_m_508 ?_
    refine q_ladd (pc := 54) (dq D_m_yearsAll_0_ok 29 rfl) ?_
    refine q_ldc2 (pc := 55) (v := 65537) (dq D_m_yearsAll_0_ok 30 rfl) lk_m_510 ?_
    refine q_lrem (pc := 58) (dq D_m_yearsAll_0_ok 31 rfl) ?_
    refine q_l2i (pc := 59) (dq D_m_yearsAll_0_ok 32 rfl) ?_
    refine r_nmI (fun y5 => ?_)
    refine q_istore (pc := 60) (ls' := [(4, .int y5), (0, .ref v0), (2, .int v2), (3, .int v3), (5, .int v5), (6, .int v6), (7, .int v7)]) (dq D_m_yearsAll_0_ok 33 rfl) rfl rfl ?_
    refine q_iload (pc := 62) (dq D_m_yearsAll_0_ok 34 rfl) 0 rfl ?_
    refine q_bipush (pc := 64) (v := 100) (dq D_m_yearsAll_0_ok 35 rfl) (by decide) ?_
    refine q_irem (pc := 66) (dq D_m_yearsAll_0_ok 36 rfl) ?_
    refine q_aload_n (pc := 67) (dq D_m_yearsAll_0_ok 37 rfl) rfl 1 rfl ?_
    refine q_getR (pc := 68) (dq D_m_yearsAll_0_ok 38 rfl) fa_m_348 rfl (fun x6 => ?_)
    refine r_getI (pc := 71) (dq D_m_yearsAll_0_ok 39 rfl) fa_m_239 rfl (fun x7 => ?_)
    refine q_ic_lt (pc := 74) 80 (dq D_m_yearsAll_0_ok 40 rfl) rfl ?_ ?_
    · refine q_aload_n (pc := 80) (dq D_m_yearsAll_0_ok 42 rfl) rfl 1 rfl ?_
      refine q_iload (pc := 81) (dq D_m_yearsAll_0_ok 43 rfl) 6 rfl ?_
      refine r_invU (Mc := M_m_slips1) (pc := 83) (ci := 11) (rest := []) 1 1 [.int v7] (dq D_m_yearsAll_0_ok 44 rfl) rfl rfl lc_m_slips1 lv_m_slips1_ ml_m_483 rfl rfl rfl rfl (t_m_slips1 v0 v7 h) (fun _ h8 => ?_)
      refine q_aload_n (pc := 86) (dq D_m_yearsAll_0_ok 45 rfl) rfl 1 rfl ?_
      refine q_dup (pc := 87) (dq D_m_yearsAll_0_ok 46 rfl) rfl ?_
      refine r_getI (pc := 88) (dq D_m_yearsAll_0_ok 47 rfl) fa_m_503 rfl (fun x10 => ?_)
      refine q_ic1 (pc := 91) (dq D_m_yearsAll_0_ok 48 rfl) ?_
      refine q_iadd (pc := 92) (dq D_m_yearsAll_0_ok 49 rfl) ?_
      refine r_putI (pc := 93) (dq D_m_yearsAll_0_ok 50 rfl) fp_m_503 rfl rfl (fun h11 => ?_)
      exact T.lsub [1, 2, 3, 0, 4, 5, 6] rfl (tb_m_yearsAll_96 hk18 hk32 v0 v2 v3 y5 v5 v6 v7 h11)
    · refine q_goto (pc := 77) 96 (dq D_m_yearsAll_0_ok 41 rfl) rfl ?_
      exact T.lsub [1, 2, 3, 0, 4, 5, 6] rfl (tb_m_yearsAll_96 hk18 hk32 v0 v2 v3 y5 v5 v6 v7 h)
noncomputable def l_m_yearsAll_32 (k18 : (Nat × Int32 × Int32 × Int32 × Int32 × Int32) → Hp → Option (Int32 × Hp)) : Nat → (Nat × Int32 × Int32 × Int32 × Int32 × Int32 × Int32) → Hp → Option (Int32 × Hp) := lp (fun k32 s h => b_m_yearsAll_32 k18 k32 s.1 s.2.1 s.2.2.1 s.2.2.2.1 s.2.2.2.2.1 s.2.2.2.2.2.1 s.2.2.2.2.2.2 h)
set_option maxHeartbeats 4000000 in
set_option maxRecDepth 20000 in
theorem tl_m_yearsAll_32 {G : GG} {k18 : (Nat × Int32 × Int32 × Int32 × Int32 × Int32) → Hp → Option (Int32 × Hp)} (hk18 : ∀ s h, T G M_m_yearsAll 3 cI 18 [(0, .ref s.1), (2, .int s.2.1), (3, .int s.2.2.1), (4, .int s.2.2.2.1), (5, .int s.2.2.2.2.1), (6, .int s.2.2.2.2.2)] [] h (k18 s h)) (n : Nat) (s : Nat × Int32 × Int32 × Int32 × Int32 × Int32 × Int32) (h : Hp) : T G M_m_yearsAll 3 cI 32 [(0, .ref s.1), (2, .int s.2.1), (3, .int s.2.2.1), (4, .int s.2.2.2.1), (5, .int s.2.2.2.2.1), (6, .int s.2.2.2.2.2.1), (7, .int s.2.2.2.2.2.2)] [] h (l_m_yearsAll_32 k18 n s h) :=
  T.loop (lsOf := fun s => [(0, .ref s.1), (2, .int s.2.1), (3, .int s.2.2.1), (4, .int s.2.2.2.1), (5, .int s.2.2.2.2.1), (6, .int s.2.2.2.2.2.1), (7, .int s.2.2.2.2.2.2)]) (fun k32 hk32 s h => tb_m_yearsAll_32 hk18 hk32 s.1 s.2.1 s.2.2.1 s.2.2.2.1 s.2.2.2.2.1 s.2.2.2.2.2.1 s.2.2.2.2.2.2 h) n s h
noncomputable def b_m_yearsAll_18 (k18 : (Nat × Int32 × Int32 × Int32 × Int32 × Int32) → Hp → Option (Int32 × Hp)) (v0 : Nat) (v2 : Int32) (v3 : Int32) (v4 : Int32) (v5 : Int32) (v6 : Int32) (h : Hp) : Option (Int32 × Hp) := if v2 ≤ v6 then (some (v5, h)) else (gd (hS h v0 = some (.inl 11)) (bd (f_m_aTurn v0 h) fun r2 h1 => lt (0 : Int32) fun y3 => l_m_yearsAll_32 k18 FU (v0, v2, v3, v4, v5, v6, y3) h1))
set_option maxHeartbeats 4000000 in
set_option maxRecDepth 20000 in
theorem tb_m_yearsAll_18 {G : GG} {k18 : (Nat × Int32 × Int32 × Int32 × Int32 × Int32) → Hp → Option (Int32 × Hp)} (hk18 : ∀ s h, T G M_m_yearsAll 3 cI 18 [(0, .ref s.1), (2, .int s.2.1), (3, .int s.2.2.1), (4, .int s.2.2.2.1), (5, .int s.2.2.2.2.1), (6, .int s.2.2.2.2.2)] [] h (k18 s h)) (v0 : Nat) (v2 : Int32) (v3 : Int32) (v4 : Int32) (v5 : Int32) (v6 : Int32) (h : Hp) : T G M_m_yearsAll 3 cI 18 [(0, .ref v0), (2, .int v2), (3, .int v3), (4, .int v4), (5, .int v5), (6, .int v6)] [] h (b_m_yearsAll_18 k18 v0 v2 v3 v4 v5 v6 h) := by
  unfold b_m_yearsAll_18
  refine q_iload (pc := 18) (dq D_m_yearsAll_0_ok 11 rfl) 5 rfl ?_
  refine q_iload_n (pc := 20) (dq D_m_yearsAll_0_ok 12 rfl) rfl 1 rfl ?_
  refine q_ic_ge (pc := 21) 131 (dq D_m_yearsAll_0_ok 13 rfl) rfl ?_ ?_
  · refine q_iload (pc := 131) (dq D_m_yearsAll_1_ok 8 rfl) 4 rfl ?_
    exact r_reti (pc := 133) (dq D_m_yearsAll_1_ok 9 rfl) rfl
  · refine q_aload_n (pc := 24) (dq D_m_yearsAll_0_ok 14 rfl) rfl 0 rfl ?_
    refine r_invI (Mc := M_m_aTurn) (pc := 25) (ci := 11) (rest := []) 2 0 [] (dq D_m_yearsAll_0_ok 15 rfl) rfl rfl lc_m_aTurn lv_m_aTurn_ ml_m_403 rfl rfl rfl rfl (t_m_aTurn v0 h) (fun r2 h1 => ?_)
    refine q_pop (pc := 28) (dq D_m_yearsAll_0_ok 16 rfl) rfl ?_
    refine q_ic0 (pc := 29) (dq D_m_yearsAll_0_ok 17 rfl) ?_
    refine r_nmI (fun y3 => ?_)
    refine q_istore (pc := 30) (ls' := [(7, .int y3), (0, .ref v0), (2, .int v2), (3, .int v3), (4, .int v4), (5, .int v5), (6, .int v6)]) (dq D_m_yearsAll_0_ok 18 rfl) rfl rfl ?_
    exact T.lsub [1, 2, 3, 4, 5, 6, 0] rfl (tl_m_yearsAll_32 hk18 FU (v0, v2, v3, v4, v5, v6, y3) h1)
noncomputable def l_m_yearsAll_18 : Nat → (Nat × Int32 × Int32 × Int32 × Int32 × Int32) → Hp → Option (Int32 × Hp) := lp (fun k18 s h => b_m_yearsAll_18 k18 s.1 s.2.1 s.2.2.1 s.2.2.2.1 s.2.2.2.2.1 s.2.2.2.2.2 h)
set_option maxHeartbeats 4000000 in
set_option maxRecDepth 20000 in
theorem tl_m_yearsAll_18 {G : GG} (n : Nat) (s : Nat × Int32 × Int32 × Int32 × Int32 × Int32) (h : Hp) : T G M_m_yearsAll 3 cI 18 [(0, .ref s.1), (2, .int s.2.1), (3, .int s.2.2.1), (4, .int s.2.2.2.1), (5, .int s.2.2.2.2.1), (6, .int s.2.2.2.2.2)] [] h (l_m_yearsAll_18 n s h) :=
  T.loop (lsOf := fun s => [(0, .ref s.1), (2, .int s.2.1), (3, .int s.2.2.1), (4, .int s.2.2.2.1), (5, .int s.2.2.2.2.1), (6, .int s.2.2.2.2.2)]) (fun k18 hk18 s h => tb_m_yearsAll_18 hk18 s.1 s.2.1 s.2.2.1 s.2.2.2.1 s.2.2.2.2.1 s.2.2.2.2.2 h) n s h
noncomputable def f_m_yearsAll (v0 : Nat) (v1 : Int32) (v2 : Int32) (v3 : Int32) (h : Hp) : Option (Int32 × Hp) := gd (hS h v0 = some (.inl 11)) (bd (f_m_works v0 h) fun _ h1 => lt (0 : Int32) fun y3 => gd (hS h1 v0 = some (.inl 11)) (lt (uI h1 v0 35 0) fun h4 => lt (0 : Int32) fun y5 => l_m_yearsAll_18 FU (v0, v2, v3, v1, y3, y5) h4))
set_option maxHeartbeats 4000000 in
set_option maxRecDepth 20000 in
theorem t_m_yearsAll {G : GG} (v0 : Nat) (v1 : Int32) (v2 : Int32) (v3 : Int32) (h : Hp) : Mt G M_m_yearsAll 3 [.ref v0, .int v1, .int v2, .int v3] cI h (f_m_yearsAll v0 v1 v2 v3 h) := by
  refine Mt.ofF (by decide +kernel) rfl (Rt.i rfl rfl) ?_
  show T G M_m_yearsAll 3 cI 0 [(0, .ref v0), (1, .int v1), (2, .int v2), (3, .int v3)] [] h _
  unfold f_m_yearsAll
  refine q_aload_n (pc := 0) (dq D_m_yearsAll_0_ok 0 rfl) rfl 0 rfl ?_
  refine r_invU (Mc := M_m_works) (pc := 1) (ci := 11) (rest := []) 0 0 [] (dq D_m_yearsAll_0_ok 1 rfl) rfl rfl lc_m_works lv_m_works_ ml_m_383 rfl rfl rfl rfl (t_m_works v0 h) (fun _ h1 => ?_)
  refine q_iload_n (pc := 4) (dq D_m_yearsAll_0_ok 2 rfl) rfl 1 rfl ?_
  refine q_istore (pc := 5) (ls' := [(4, .int v1), (0, .ref v0), (1, .int v1), (2, .int v2), (3, .int v3)]) (dq D_m_yearsAll_0_ok 3 rfl) rfl rfl ?_
  refine q_ic0 (pc := 7) (dq D_m_yearsAll_0_ok 4 rfl) ?_
  refine r_nmI (fun y3 => ?_)
  refine q_istore (pc := 8) (ls' := [(5, .int y3), (4, .int v1), (0, .ref v0), (1, .int v1), (2, .int v2), (3, .int v3)]) (dq D_m_yearsAll_0_ok 5 rfl) rfl rfl ?_
  refine q_aload_n (pc := 10) (dq D_m_yearsAll_0_ok 6 rfl) rfl 2 rfl ?_
  refine q_ic0 (pc := 11) (dq D_m_yearsAll_0_ok 7 rfl) ?_
  refine r_putI (pc := 12) (dq D_m_yearsAll_0_ok 8 rfl) fp_m_503 rfl rfl (fun h4 => ?_)
  refine q_ic0 (pc := 15) (dq D_m_yearsAll_0_ok 9 rfl) ?_
  refine r_nmI (fun y5 => ?_)
  refine q_istore (pc := 16) (ls' := [(6, .int y5), (5, .int y3), (4, .int v1), (0, .ref v0), (1, .int v1), (2, .int v2), (3, .int v3)]) (dq D_m_yearsAll_0_ok 10 rfl) rfl rfl ?_
  exact T.lsub [3, 5, 6, 2, 1, 0] rfl (tl_m_yearsAll_18 FU (v0, v2, v3, v1, y3, y5) h4)
noncomputable def f_m_refusesSeed (v0 : Nat) (v1 : Int32) (v2 : Int32) (v3 : Int32) (h : Hp) : Option (Int32 × Hp) := if v1 = 0 then (some (1, h)) else (bd (f_m_in v2 (0 : Int32) (65536 : Int32) h) fun r2 h1 => if r2 = 0 then (some (2, h1)) else (bd (f_m_in v3 (0 : Int32) (400 : Int32) h1) fun r4 h3 => if r4 = 0 then (some (2, h3)) else (some (0, h3))))
set_option maxHeartbeats 4000000 in
set_option maxRecDepth 20000 in
theorem t_m_refusesSeed {G : GG} (v0 : Nat) (v1 : Int32) (v2 : Int32) (v3 : Int32) (h : Hp) : Mt G M_m_refusesSeed 1 [.ref v0, .int v1, .int v2, .int v3] cI h (f_m_refusesSeed v0 v1 v2 v3 h) := by
  refine Mt.ofF (by decide +kernel) rfl (Rt.i rfl rfl) ?_
  show T G M_m_refusesSeed 1 cI 0 [(0, .ref v0), (1, .int v1), (2, .int v2), (3, .int v3)] [] h _
  unfold f_m_refusesSeed
  refine q_iload_n (pc := 0) (dq D_m_refusesSeed_0_ok 0 rfl) rfl 1 rfl ?_
  refine p_if_ne (pc := 1) 8 (dq D_m_refusesSeed_0_ok 1 rfl) rfl ?_ ?_
  · refine q_iload_n (pc := 8) (dq D_m_refusesSeed_0_ok 4 rfl) rfl 2 rfl ?_
    refine q_ic0 (pc := 9) (dq D_m_refusesSeed_0_ok 5 rfl) ?_
    refine q_ldcw (pc := 10) (v := 65536) (dq D_m_refusesSeed_0_ok 6 rfl) lk_m_512 ?_
    refine r_insI (Mc := M_m_in) (pc := 13) (rest := []) 0 3 [.int v2, .int 0, .int 65536] (dq D_m_refusesSeed_0_ok 7 rfl) lc_m_in ls_m_in ml_m_133 rfl rfl rfl rfl (t_m_in v2 (0 : Int32) (65536 : Int32) h) (fun r2 h1 => ?_)
    refine p_if_eq (pc := 16) 34 (dq D_m_refusesSeed_0_ok 8 rfl) rfl ?_ ?_
    · refine q_ic2 (pc := 34) (dq D_m_refusesSeed_0_ok 16 rfl) ?_
      exact r_reti (pc := 35) (dq D_m_refusesSeed_0_ok 17 rfl) rfl
    · refine q_iload_n (pc := 19) (dq D_m_refusesSeed_0_ok 9 rfl) rfl 3 rfl ?_
      refine q_ic0 (pc := 20) (dq D_m_refusesSeed_0_ok 10 rfl) ?_
      refine q_sipush (pc := 21) (v := 400) (dq D_m_refusesSeed_0_ok 11 rfl) (by decide) ?_
      refine r_insI (Mc := M_m_in) (pc := 24) (rest := []) 0 3 [.int v3, .int 0, .int 400] (dq D_m_refusesSeed_0_ok 12 rfl) lc_m_in ls_m_in ml_m_133 rfl rfl rfl rfl (t_m_in v3 (0 : Int32) (400 : Int32) h1) (fun r4 h3 => ?_)
      refine p_if_eq (pc := 27) 34 (dq D_m_refusesSeed_0_ok 13 rfl) rfl ?_ ?_
      · refine q_ic2 (pc := 34) (dq D_m_refusesSeed_0_ok 16 rfl) ?_
        exact r_reti (pc := 35) (dq D_m_refusesSeed_0_ok 17 rfl) rfl
      · refine q_ic0 (pc := 30) (dq D_m_refusesSeed_0_ok 14 rfl) ?_
        refine q_goto (pc := 31) 35 (dq D_m_refusesSeed_0_ok 15 rfl) rfl ?_
        exact r_reti (pc := 35) (dq D_m_refusesSeed_0_ok 17 rfl) rfl
  · refine q_ic1 (pc := 4) (dq D_m_refusesSeed_0_ok 2 rfl) ?_
    refine q_goto (pc := 5) 35 (dq D_m_refusesSeed_0_ok 3 rfl) rfl ?_
    exact r_reti (pc := 35) (dq D_m_refusesSeed_0_ok 17 rfl) rfl
noncomputable def f_m_years (v0 : Nat) (v1 : Int32) (v2 : Int32) (v3 : Int32) (h : Hp) : Option (Int32 × Hp) := gd (hS h v0 = some (.inl 11)) (lt (uI h v0 0 0) fun h1 => gd (hS h1 v0 = some (.inl 11)) (bd (f_m_isWheel v0 v1 h1) fun r3 h2 => gd (hS h2 v0 = some (.inl 11)) (bd (f_m_refusesSeed v0 r3 v2 v3 h2) fun r5 h4 => if r5 ≤ 0 then (gd (hS h4 v0 = some (.inl 11)) (bd (f_m_yearsAll v0 v2 v3 ((-1)) h4) fun r7 h6 => gd (hS h6 v0 = some (.inl 11)) (bR (hR h6 v0 16) fun x8 => gd (ai h6 x8 0 v1) (lt (hI h6 x8 v1.toNatClampNeg) fun x9 => gd (hS h6 v0 = some (.inl 11)) (bd (f_m_good v0 x9 h6) fun r11 h10 => some (r11, h10)))))) else (gd (hS h4 v0 = some (.inl 11)) (bd (f_m_refused v0 r5 h4) fun r13 h12 => some (r13, h12))))))
set_option maxHeartbeats 4000000 in
set_option maxRecDepth 20000 in
theorem t_m_years {G : GG} (v0 : Nat) (v1 : Int32) (v2 : Int32) (v3 : Int32) (h : Hp) : Mt G M_m_years 4 [.ref v0, .int v1, .int v2, .int v3] cI h (f_m_years v0 v1 v2 v3 h) := by
  refine Mt.ofF (by decide +kernel) rfl (Rt.i rfl rfl) ?_
  show T G M_m_years 4 cI 0 [(0, .ref v0), (1, .int v1), (2, .int v2), (3, .int v3)] [] h _
  unfold f_m_years
  refine q_aload_n (pc := 0) (dq D_m_years_0_ok 0 rfl) rfl 0 rfl ?_
  refine q_ic0 (pc := 1) (dq D_m_years_0_ok 1 rfl) ?_
  refine r_putI (pc := 2) (dq D_m_years_0_ok 2 rfl) fp_m_54 rfl rfl (fun h1 => ?_)
  refine q_aload_n (pc := 5) (dq D_m_years_0_ok 3 rfl) rfl 0 rfl ?_
  refine q_aload_n (pc := 6) (dq D_m_years_0_ok 4 rfl) rfl 0 rfl ?_
  refine q_iload_n (pc := 7) (dq D_m_years_0_ok 5 rfl) rfl 1 rfl ?_
  refine r_invI (Mc := M_m_isWheel) (pc := 8) (ci := 11) (rest := [.ref v0]) 0 1 [.int v1] (dq D_m_years_0_ok 6 rfl) rfl rfl lc_m_isWheel lv_m_isWheel_ ml_m_357 rfl rfl rfl rfl (t_m_isWheel v0 v1 h1) (fun r3 h2 => ?_)
  refine q_iload_n (pc := 11) (dq D_m_years_0_ok 7 rfl) rfl 2 rfl ?_
  refine q_iload_n (pc := 12) (dq D_m_years_0_ok 8 rfl) rfl 3 rfl ?_
  refine r_invI (Mc := M_m_refusesSeed) (pc := 13) (ci := 11) (rest := []) 1 3 [.int r3, .int v2, .int v3] (dq D_m_years_0_ok 9 rfl) rfl rfl lc_m_refusesSeed lv_m_refusesSeed_ ml_m_513 rfl rfl rfl rfl (t_m_refusesSeed v0 r3 v2 v3 h2) (fun r5 h4 => ?_)
  refine q_istore (pc := 16) (ls' := [(4, .int r5), (0, .ref v0), (1, .int v1), (2, .int v2), (3, .int v3)]) (dq D_m_years_0_ok 10 rfl) rfl rfl ?_
  refine q_iload (pc := 18) (dq D_m_years_0_ok 11 rfl) 0 rfl ?_
  refine p_if_le (pc := 20) 30 (dq D_m_years_0_ok 12 rfl) rfl ?_ ?_
  · refine q_aload_n (pc := 30) (dq D_m_years_0_ok 17 rfl) rfl 1 rfl ?_
    refine q_iload_n (pc := 31) (dq D_m_years_0_ok 18 rfl) rfl 3 rfl ?_
    refine q_iload_n (pc := 32) (dq D_m_years_0_ok 19 rfl) rfl 4 rfl ?_
    refine q_icm1 (pc := 33) (dq D_m_years_0_ok 20 rfl) ?_
    refine r_invI (Mc := M_m_yearsAll) (pc := 34) (ci := 11) (rest := []) 3 3 [.int v2, .int v3, .int ((-1))] (dq D_m_years_0_ok 21 rfl) rfl rfl lc_m_yearsAll lv_m_yearsAll_ ml_m_517 rfl rfl rfl rfl (t_m_yearsAll v0 v2 v3 ((-1)) h4) (fun r7 h6 => ?_)
    refine q_pop (pc := 37) (dq D_m_years_0_ok 22 rfl) rfl ?_
    refine q_aload_n (pc := 38) (dq D_m_years_0_ok 23 rfl) rfl 1 rfl ?_
    refine q_aload_n (pc := 39) (dq D_m_years_0_ok 24 rfl) rfl 1 rfl ?_
    refine q_getR (pc := 40) (dq D_m_years_0_ok 25 rfl) fa_m_21 rfl (fun x8 => ?_)
    refine q_iload_n (pc := 43) (dq D_m_years_0_ok 26 rfl) rfl 2 rfl ?_
    refine r_iald (pc := 44) (dq D_m_years_0_ok 27 rfl) (fun x9 => ?_)
    refine r_invI (Mc := M_m_good) (pc := 45) (ci := 11) (rest := []) 0 1 [.int x9] (dq D_m_years_0_ok 28 rfl) rfl rfl lc_m_good lv_m_good_ ml_m_64 rfl rfl rfl rfl (t_m_good v0 x9 h6) (fun r11 h10 => ?_)
    exact r_reti (pc := 48) (dq D_m_years_0_ok 29 rfl) rfl
  · refine q_aload_n (pc := 23) (dq D_m_years_0_ok 13 rfl) rfl 1 rfl ?_
    refine q_iload (pc := 24) (dq D_m_years_0_ok 14 rfl) 0 rfl ?_
    refine r_invI (Mc := M_m_refused) (pc := 26) (ci := 11) (rest := []) 0 1 [.int r5] (dq D_m_years_0_ok 15 rfl) rfl rfl lc_m_refused lv_m_refused_ ml_m_60 rfl rfl rfl rfl (t_m_refused v0 r5 h4) (fun r13 h12 => ?_)
    exact r_reti (pc := 29) (dq D_m_years_0_ok 16 rfl) rfl
noncomputable def f_m_yearFeasts (v0 : Nat) (v1 : Int32) (v2 : Int32) (v3 : Int32) (h : Hp) : Option (Int32 × Hp) := gd (hS h v0 = some (.inl 11)) (lt (uI h v0 0 0) fun h1 => gd (hS h1 v0 = some (.inl 11)) (bd (f_m_isFeast v0 v1 h1) fun r3 h2 => gd (hS h2 v0 = some (.inl 11)) (bd (f_m_refusesSeed v0 r3 v2 v3 h2) fun r5 h4 => if r5 ≤ 0 then (gd (hS h4 v0 = some (.inl 11)) (bd (f_m_yearsAll v0 v2 v3 v1 h4) fun r7 h6 => gd (hS h6 v0 = some (.inl 11)) (bd (f_m_good v0 r7 h6) fun r9 h8 => some (r9, h8)))) else (gd (hS h4 v0 = some (.inl 11)) (bd (f_m_refused v0 r5 h4) fun r11 h10 => some (r11, h10))))))
set_option maxHeartbeats 4000000 in
set_option maxRecDepth 20000 in
theorem t_m_yearFeasts {G : GG} (v0 : Nat) (v1 : Int32) (v2 : Int32) (v3 : Int32) (h : Hp) : Mt G M_m_yearFeasts 4 [.ref v0, .int v1, .int v2, .int v3] cI h (f_m_yearFeasts v0 v1 v2 v3 h) := by
  refine Mt.ofF (by decide +kernel) rfl (Rt.i rfl rfl) ?_
  show T G M_m_yearFeasts 4 cI 0 [(0, .ref v0), (1, .int v1), (2, .int v2), (3, .int v3)] [] h _
  unfold f_m_yearFeasts
  refine q_aload_n (pc := 0) (dq D_m_yearFeasts_0_ok 0 rfl) rfl 0 rfl ?_
  refine q_ic0 (pc := 1) (dq D_m_yearFeasts_0_ok 1 rfl) ?_
  refine r_putI (pc := 2) (dq D_m_yearFeasts_0_ok 2 rfl) fp_m_54 rfl rfl (fun h1 => ?_)
  refine q_aload_n (pc := 5) (dq D_m_yearFeasts_0_ok 3 rfl) rfl 0 rfl ?_
  refine q_aload_n (pc := 6) (dq D_m_yearFeasts_0_ok 4 rfl) rfl 0 rfl ?_
  refine q_iload_n (pc := 7) (dq D_m_yearFeasts_0_ok 5 rfl) rfl 1 rfl ?_
  refine r_invI (Mc := M_m_isFeast) (pc := 8) (ci := 11) (rest := [.ref v0]) 0 1 [.int v1] (dq D_m_yearFeasts_0_ok 6 rfl) rfl rfl lc_m_isFeast lv_m_isFeast_ ml_m_360 rfl rfl rfl rfl (t_m_isFeast v0 v1 h1) (fun r3 h2 => ?_)
  refine q_iload_n (pc := 11) (dq D_m_yearFeasts_0_ok 7 rfl) rfl 2 rfl ?_
  refine q_iload_n (pc := 12) (dq D_m_yearFeasts_0_ok 8 rfl) rfl 3 rfl ?_
  refine r_invI (Mc := M_m_refusesSeed) (pc := 13) (ci := 11) (rest := []) 1 3 [.int r3, .int v2, .int v3] (dq D_m_yearFeasts_0_ok 9 rfl) rfl rfl lc_m_refusesSeed lv_m_refusesSeed_ ml_m_513 rfl rfl rfl rfl (t_m_refusesSeed v0 r3 v2 v3 h2) (fun r5 h4 => ?_)
  refine q_istore (pc := 16) (ls' := [(4, .int r5), (0, .ref v0), (1, .int v1), (2, .int v2), (3, .int v3)]) (dq D_m_yearFeasts_0_ok 10 rfl) rfl rfl ?_
  refine q_iload (pc := 18) (dq D_m_yearFeasts_0_ok 11 rfl) 0 rfl ?_
  refine p_if_le (pc := 20) 32 (dq D_m_yearFeasts_0_ok 12 rfl) rfl ?_ ?_
  · refine q_aload_n (pc := 32) (dq D_m_yearFeasts_0_ok 17 rfl) rfl 1 rfl ?_
    refine q_aload_n (pc := 33) (dq D_m_yearFeasts_0_ok 18 rfl) rfl 1 rfl ?_
    refine q_iload_n (pc := 34) (dq D_m_yearFeasts_0_ok 19 rfl) rfl 3 rfl ?_
    refine q_iload_n (pc := 35) (dq D_m_yearFeasts_0_ok 20 rfl) rfl 4 rfl ?_
    refine q_iload_n (pc := 36) (dq D_m_yearFeasts_0_ok 21 rfl) rfl 2 rfl ?_
    refine r_invI (Mc := M_m_yearsAll) (pc := 37) (ci := 11) (rest := [.ref v0]) 3 3 [.int v2, .int v3, .int v1] (dq D_m_yearFeasts_0_ok 22 rfl) rfl rfl lc_m_yearsAll lv_m_yearsAll_ ml_m_517 rfl rfl rfl rfl (t_m_yearsAll v0 v2 v3 v1 h4) (fun r7 h6 => ?_)
    refine r_invI (Mc := M_m_good) (pc := 40) (ci := 11) (rest := []) 0 1 [.int r7] (dq D_m_yearFeasts_0_ok 23 rfl) rfl rfl lc_m_good lv_m_good_ ml_m_64 rfl rfl rfl rfl (t_m_good v0 r7 h6) (fun r9 h8 => ?_)
    exact r_reti (pc := 43) (dq D_m_yearFeasts_0_ok 24 rfl) rfl
  · refine q_aload_n (pc := 23) (dq D_m_yearFeasts_0_ok 13 rfl) rfl 1 rfl ?_
    refine q_iload (pc := 24) (dq D_m_yearFeasts_0_ok 14 rfl) 0 rfl ?_
    refine r_invI (Mc := M_m_refused) (pc := 26) (ci := 11) (rest := []) 0 1 [.int r5] (dq D_m_yearFeasts_0_ok 15 rfl) rfl rfl lc_m_refused lv_m_refused_ ml_m_60 rfl rfl rfl rfl (t_m_refused v0 r5 h4) (fun r11 h10 => ?_)
    refine q_goto (pc := 29) 43 (dq D_m_yearFeasts_0_ok 16 rfl) rfl ?_
    exact r_reti (pc := 43) (dq D_m_yearFeasts_0_ok 24 rfl) rfl
