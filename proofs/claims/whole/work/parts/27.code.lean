noncomputable def b_B_jerkMean_25 (v0 : Nat) (h : Hp) : Option (Int64 × Hp) := gd (hS h v0 = some (.inl 0)) (bd (f_B_refuse v0 (2 : Int32) h) fun r2 h1 => some (r2.toInt64, h1))
set_option maxHeartbeats 4000000 in
set_option maxRecDepth 20000 in
theorem tb_B_jerkMean_25 {G : GG} (v0 : Nat) (h : Hp) : T G M_B_jerkMean 4 cL 25 [(0, .ref v0)] [] h (b_B_jerkMean_25 v0 h) := by
  unfold b_B_jerkMean_25
  refine q_aload_n (pc := 25) (dq D_B_jerkMean_0_ok 14 rfl) rfl 0 rfl ?_
  refine q_ic2 (pc := 26) (dq D_B_jerkMean_0_ok 15 rfl) ?_
  refine r_invI (Mc := M_B_refuse) (pc := 27) (ci := 0) (rest := []) 0 1 [.int 2] (dq D_B_jerkMean_0_ok 16 rfl) rfl rfl lc_B_refuse lv_B_refuse_ ml_B_87 rfl rfl rfl rfl (t_B_refuse v0 (2 : Int32) h) (fun r2 h1 => ?_)
  refine q_i2l (pc := 30) (dq D_B_jerkMean_0_ok 17 rfl) ?_
  exact r_retl (pc := 31) (dq D_B_jerkMean_0_ok 18 rfl) rfl
noncomputable def f_B_jerkMean (v0 : Nat) (v1 : Int32) (v2 : Int32) (v3 : Int32) (h : Hp) : Option (Int64 × Hp) := gd (hS h v0 = some (.inl 0)) (bd (f_B_hasWheel v0 v1 h) fun r2 h1 => if r2 = 0 then (gd (hS h1 v0 = some (.inl 0)) (bd (f_B_refuse v0 (1 : Int32) h1) fun r16 h15 => some (r16.toInt64, h15))) else (if v2 < 0 then (b_B_jerkMean_25 v0 h1) else (if v2 ≤ 6 then (gd (hS h1 v0 = some (.inl 0)) (bd (f_B_grant v0 (0 : Int32) h1) fun r4 h3 => gd (hS h3 v0 = some (.inl 0)) (bR (hR h3 v0 13) fun x5 => gd (hS h3 v0 = some (.inl 0)) (bR (hR h3 v0 3) fun x6 => gd (hS h3 v0 = some (.inl 0)) (bR (hR h3 v0 5) fun x7 => gd (hS h3 x5 = some (.inl 10)) (bd (f_H_spread x5 x6 x7 v1 v2 h3) fun _ h8 => gd (hS h8 v0 = some (.inl 0)) (bR (hR h8 v0 13) fun x10 => gd (hS h8 v0 = some (.inl 0)) (bR (hR h8 v0 13) fun x11 => gd (hS h8 x11 = some (.inl 10)) (lt (hL h8 x11 2) fun x12 => gd (hS h8 x10 = some (.inl 10)) (bd (f_H_lowest x10 x12 v3 h8) fun r14 h13 => some (r14, h13))))))))))) else (b_B_jerkMean_25 v0 h1))))
set_option maxHeartbeats 4000000 in
set_option maxRecDepth 20000 in
theorem t_B_jerkMean {G : GG} (v0 : Nat) (v1 : Int32) (v2 : Int32) (v3 : Int32) (h : Hp) : Mt G M_B_jerkMean 4 [.ref v0, .int v1, .int v2, .int v3] cL h (f_B_jerkMean v0 v1 v2 v3 h) := by
  refine Mt.ofF (by decide +kernel) rfl (Rt.l rfl rfl) ?_
  show T G M_B_jerkMean 4 cL 0 [(0, .ref v0), (1, .int v1), (2, .int v2), (3, .int v3)] [] h _
  unfold f_B_jerkMean
  refine q_aload_n (pc := 0) (dq D_B_jerkMean_0_ok 0 rfl) rfl 0 rfl ?_
  refine q_iload_n (pc := 1) (dq D_B_jerkMean_0_ok 1 rfl) rfl 1 rfl ?_
  refine r_invI (Mc := M_B_hasWheel) (pc := 2) (ci := 0) (rest := []) 0 1 [.int v1] (dq D_B_jerkMean_0_ok 2 rfl) rfl rfl lc_B_hasWheel lv_B_hasWheel_ ml_B_118 rfl rfl rfl rfl (t_B_hasWheel v0 v1 h) (fun r2 h1 => ?_)
  refine p_if_ne (pc := 5) 15 (dq D_B_jerkMean_0_ok 3 rfl) rfl ?_ ?_
  · refine q_iload_n (pc := 15) (dq D_B_jerkMean_0_ok 9 rfl) rfl 2 rfl ?_
    refine p_if_lt (pc := 16) 25 (dq D_B_jerkMean_0_ok 10 rfl) rfl ?_ ?_
    · exact T.lsub [0] rfl (tb_B_jerkMean_25 v0 h1)
    · refine q_iload_n (pc := 19) (dq D_B_jerkMean_0_ok 11 rfl) rfl 2 rfl ?_
      refine q_bipush (pc := 20) (v := 6) (dq D_B_jerkMean_0_ok 12 rfl) (by decide) ?_
      refine q_ic_le (pc := 22) 32 (dq D_B_jerkMean_0_ok 13 rfl) rfl ?_ ?_
      · refine q_aload_n (pc := 32) (dq D_B_jerkMean_0_ok 19 rfl) rfl 0 rfl ?_
        refine q_ic0 (pc := 33) (dq D_B_jerkMean_0_ok 20 rfl) ?_
        refine r_invI (Mc := M_B_grant) (pc := 34) (ci := 0) (rest := []) 0 1 [.int 0] (dq D_B_jerkMean_0_ok 21 rfl) rfl rfl lc_B_grant lv_B_grant_ ml_B_109 rfl rfl rfl rfl (t_B_grant v0 (0 : Int32) h1) (fun r4 h3 => ?_)
        refine q_pop (pc := 37) (dq D_B_jerkMean_0_ok 22 rfl) rfl ?_
        refine q_aload_n (pc := 38) (dq D_B_jerkMean_0_ok 23 rfl) rfl 0 rfl ?_
        refine q_getR (pc := 39) (dq D_B_jerkMean_0_ok 24 rfl) fa_B_75 rfl (fun x5 => ?_)
        refine q_aload_n (pc := 42) (dq D_B_jerkMean_0_ok 25 rfl) rfl 0 rfl ?_
        refine q_getR (pc := 43) (dq D_B_jerkMean_0_ok 26 rfl) fa_B_23 rfl (fun x6 => ?_)
        refine q_aload_n (pc := 46) (dq D_B_jerkMean_0_ok 27 rfl) rfl 0 rfl ?_
        refine q_getR (pc := 47) (dq D_B_jerkMean_0_ok 28 rfl) fa_B_30 rfl (fun x7 => ?_)
        refine q_iload_n (pc := 50) (dq D_B_jerkMean_0_ok 29 rfl) rfl 1 rfl ?_
        refine q_iload_n (pc := 51) (dq D_B_jerkMean_0_ok 30 rfl) rfl 2 rfl ?_
        refine r_invU (Mc := M_H_spread) (pc := 52) (ci := 10) (rest := []) 3 4 [.ref x6, .ref x7, .int v1, .int v2] (dq D_B_jerkMean_0_ok 31 rfl) rfl rfl lc_H_spread lv_H_spread_ ml_B_288 rfl rfl rfl rfl (t_H_spread x5 x6 x7 v1 v2 h3) (fun _ h8 => ?_)
        refine q_aload_n (pc := 55) (dq D_B_jerkMean_0_ok 32 rfl) rfl 0 rfl ?_
        refine q_getR (pc := 56) (dq D_B_jerkMean_0_ok 33 rfl) fa_B_75 rfl (fun x10 => ?_)
        refine q_aload_n (pc := 59) (dq D_B_jerkMean_0_ok 34 rfl) rfl 0 rfl ?_
        refine q_getR (pc := 60) (dq D_B_jerkMean_0_ok 35 rfl) fa_B_75 rfl (fun x11 => ?_)
        refine r_getL (pc := 63) (dq D_B_jerkMean_0_ok 36 rfl) fa_B_300 rfl (fun x12 => ?_)
        refine q_iload_n (pc := 66) (dq D_B_jerkMean_0_ok 37 rfl) rfl 3 rfl ?_
        refine r_invL (Mc := M_H_lowest) (pc := 67) (ci := 10) (rest := []) 1 2 [.long x12, .int v3] (dq D_B_jerkMean_0_ok 38 rfl) rfl rfl lc_H_lowest lv_H_lowest_ ml_B_296 rfl rfl rfl rfl (t_H_lowest x10 x12 v3 h8) (fun r14 h13 => ?_)
        exact r_retl (pc := 70) (dq D_B_jerkMean_0_ok 39 rfl) rfl
      · exact T.lsub [0] rfl (tb_B_jerkMean_25 v0 h1)
  · refine q_aload_n (pc := 8) (dq D_B_jerkMean_0_ok 4 rfl) rfl 0 rfl ?_
    refine q_ic1 (pc := 9) (dq D_B_jerkMean_0_ok 5 rfl) ?_
    refine r_invI (Mc := M_B_refuse) (pc := 10) (ci := 0) (rest := []) 0 1 [.int 1] (dq D_B_jerkMean_0_ok 6 rfl) rfl rfl lc_B_refuse lv_B_refuse_ ml_B_87 rfl rfl rfl rfl (t_B_refuse v0 (1 : Int32) h1) (fun r16 h15 => ?_)
    refine q_i2l (pc := 13) (dq D_B_jerkMean_0_ok 7 rfl) ?_
    exact r_retl (pc := 14) (dq D_B_jerkMean_0_ok 8 rfl) rfl
noncomputable def b_B_isNoYear_22 (h : Hp) : Option (Int32 × Hp) := gd (zb 1) (some (1, h))
set_option maxHeartbeats 4000000 in
set_option maxRecDepth 20000 in
theorem tb_B_isNoYear_22 {G : GG} (h : Hp) : T G M_B_isNoYear 0 cI 22 [] [] h (b_B_isNoYear_22 h) := by
  unfold b_B_isNoYear_22
  refine q_ic1 (pc := 22) (dq D_B_isNoYear_0_ok 10 rfl) ?_
  refine q_goto (pc := 23) 27 (dq D_B_isNoYear_0_ok 11 rfl) rfl ?_
  exact r_retz (pc := 27) (dq D_B_isNoYear_0_ok 13 rfl) rfl
noncomputable def f_B_isNoYear (v0 : Int32) (v1 : Int32) (h : Hp) : Option (Int32 × Hp) := if v0 < 0 then (b_B_isNoYear_22 h) else (if 65536 < v0 then (b_B_isNoYear_22 h) else (if v1 < 0 then (b_B_isNoYear_22 h) else (if v1 ≤ 400 then (gd (zb 0) (some (0, h))) else (b_B_isNoYear_22 h))))
set_option maxHeartbeats 4000000 in
set_option maxRecDepth 20000 in
theorem t_B_isNoYear {G : GG} (v0 : Int32) (v1 : Int32) (h : Hp) : Mt G M_B_isNoYear 0 [.int v0, .int v1] cI h (f_B_isNoYear v0 v1 h) := by
  refine Mt.ofF (by decide +kernel) rfl (Rt.z rfl rfl) ?_
  show T G M_B_isNoYear 0 cI 0 [(0, .int v0), (1, .int v1)] [] h _
  unfold f_B_isNoYear
  refine q_iload_n (pc := 0) (dq D_B_isNoYear_0_ok 0 rfl) rfl 0 rfl ?_
  refine p_if_lt (pc := 1) 22 (dq D_B_isNoYear_0_ok 1 rfl) rfl ?_ ?_
  · exact T.lsub [] rfl (tb_B_isNoYear_22 h)
  · refine q_iload_n (pc := 4) (dq D_B_isNoYear_0_ok 2 rfl) rfl 0 rfl ?_
    refine q_ldcw (pc := 5) (v := 65536) (dq D_B_isNoYear_0_ok 3 rfl) lk_B_313 ?_
    refine q_ic_gt (pc := 8) 22 (dq D_B_isNoYear_0_ok 4 rfl) rfl ?_ ?_
    · exact T.lsub [] rfl (tb_B_isNoYear_22 h)
    · refine q_iload_n (pc := 11) (dq D_B_isNoYear_0_ok 5 rfl) rfl 1 rfl ?_
      refine p_if_lt (pc := 12) 22 (dq D_B_isNoYear_0_ok 6 rfl) rfl ?_ ?_
      · exact T.lsub [] rfl (tb_B_isNoYear_22 h)
      · refine q_iload_n (pc := 15) (dq D_B_isNoYear_0_ok 7 rfl) rfl 1 rfl ?_
        refine q_sipush (pc := 16) (v := 400) (dq D_B_isNoYear_0_ok 8 rfl) (by decide) ?_
        refine q_ic_le (pc := 19) 26 (dq D_B_isNoYear_0_ok 9 rfl) rfl ?_ ?_
        · refine q_ic0 (pc := 26) (dq D_B_isNoYear_0_ok 12 rfl) ?_
          exact r_retz (pc := 27) (dq D_B_isNoYear_0_ok 13 rfl) rfl
        · exact T.lsub [] rfl (tb_B_isNoYear_22 h)
noncomputable def f_O_slip (v0 : Nat) (v1 : Nat) (v2 : Int32) (h : Hp) : Option (Unit × Hp) := gd (hS h v0 = some (.inl 2)) (bR (hR h v0 3) fun x1 => gd (ai h x1 4 v2) (bR (hR h x1 v2.toNatClampNeg) fun x2 => gd (hS h x2 = some (.inl 3)) (bd (f_W_way x2 h) fun r4 h3 => gd (hS h3 v0 = some (.inl 2)) (bd (f_O_moveOne v0 v1 v2 (1 : Int32) r4 h3) fun r6 h5 => some ((), h5)))))
set_option maxHeartbeats 4000000 in
set_option maxRecDepth 20000 in
theorem t_O_slip {G : GG} (v0 : Nat) (v1 : Nat) (v2 : Int32) (h : Hp) : Mt G M_O_slip 2 [.ref v0, .ref v1, .int v2] cU h (f_O_slip v0 v1 v2 h) := by
  refine Mt.ofF (by decide +kernel) rfl (Rt.v rfl rfl) ?_
  show T G M_O_slip 2 cU 0 [(0, .ref v0), (1, .ref v1), (2, .int v2)] [] h _
  unfold f_O_slip
  refine q_aload_n (pc := 0) (dq D_O_slip_0_ok 0 rfl) rfl 0 rfl ?_
  refine q_aload_n (pc := 1) (dq D_O_slip_0_ok 1 rfl) rfl 1 rfl ?_
  refine q_iload_n (pc := 2) (dq D_O_slip_0_ok 2 rfl) rfl 2 rfl ?_
  refine q_ic1 (pc := 3) (dq D_O_slip_0_ok 3 rfl) ?_
  refine q_aload_n (pc := 4) (dq D_O_slip_0_ok 4 rfl) rfl 0 rfl ?_
  refine q_getR (pc := 5) (dq D_O_slip_0_ok 5 rfl) fa_O_11 rfl (fun x1 => ?_)
  refine q_iload_n (pc := 8) (dq D_O_slip_0_ok 6 rfl) rfl 2 rfl ?_
  refine r_aald (pc := 9) 4 (dq D_O_slip_0_ok 7 rfl) rfl rfl (fun _ => rfl) (fun x2 => ?_)
  refine r_invI (Mc := M_W_way) (pc := 10) (ci := 3) (rest := [.int 1, .int v2, .ref v1, .ref v0]) 0 0 [] (dq D_O_slip_0_ok 8 rfl) rfl rfl lc_W_way lv_W_way_ ml_O_112 rfl rfl rfl rfl (t_W_way x2 h) (fun r4 h3 => ?_)
  refine r_invI (Mc := M_O_moveOne) (pc := 13) (ci := 2) (rest := []) 1 4 [.ref v1, .int v2, .int 1, .int r4] (dq D_O_slip_0_ok 9 rfl) rfl rfl lc_O_moveOne lv_O_moveOne_ ml_O_116 rfl rfl rfl rfl (t_O_moveOne v0 v1 v2 (1 : Int32) r4 h3) (fun r6 h5 => ?_)
  refine q_pop (pc := 16) (dq D_O_slip_0_ok 10 rfl) rfl ?_
  exact r_retu (pc := 17) (dq D_O_slip_0_ok 11 rfl) rfl
noncomputable def b_B_liveYears_143 (k29 : (Nat × Int32 × Int32 × Int32 × Int32 × Int32) → Hp → Option (Int32 × Hp)) (v0 : Nat) (v2 : Int32) (v3 : Int32) (v4 : Int32) (v5 : Int32) (v6 : Int32) (h : Hp) : Option (Int32 × Hp) := k29 (v0, v2, v3, v4, v5, v6 + 1) h
set_option maxHeartbeats 4000000 in
set_option maxRecDepth 20000 in
theorem tb_B_liveYears_143 {G : GG} {k29 : (Nat × Int32 × Int32 × Int32 × Int32 × Int32) → Hp → Option (Int32 × Hp)} (hk29 : ∀ s h, T G M_B_liveYears 4 cI 29 [(0, .ref s.1), (2, .int s.2.1), (3, .int s.2.2.1), (4, .int s.2.2.2.1), (5, .int s.2.2.2.2.1), (6, .int s.2.2.2.2.2)] [] h (k29 s h)) (v0 : Nat) (v2 : Int32) (v3 : Int32) (v4 : Int32) (v5 : Int32) (v6 : Int32) (h : Hp) : T G M_B_liveYears 4 cI 143 [(0, .ref v0), (2, .int v2), (3, .int v3), (4, .int v4), (5, .int v5), (6, .int v6)] [] h (b_B_liveYears_143 k29 v0 v2 v3 v4 v5 v6 h) := by
  unfold b_B_liveYears_143
  refine q_iinc (pc := 143) (v := (1)) (ls' := [(6, .int (v6 + 1)), (0, .ref v0), (2, .int v2), (3, .int v3), (4, .int v4), (5, .int v5)]) (dq D_B_liveYears_1_ok 13 rfl) 5 rfl (by decide) rfl rfl ?_
  refine q_goto (pc := 146) 29 (dq D_B_liveYears_1_ok 14 rfl) rfl ?_
  exact T.lsub [1, 2, 3, 4, 5, 0] rfl (hk29 (v0, v2, v3, v4, v5, v6 + 1) h)
noncomputable def b_B_liveYears_114 (k29 : (Nat × Int32 × Int32 × Int32 × Int32 × Int32) → Hp → Option (Int32 × Hp)) (k50 : (Nat × Int32 × Int32 × Int32 × Int32 × Int32 × Int32) → Hp → Option (Int32 × Hp)) (v0 : Nat) (v2 : Int32) (v3 : Int32) (v4 : Int32) (v5 : Int32) (v6 : Int32) (v7 : Int32) (h : Hp) : Option (Int32 × Hp) := k50 (v0, v2, v3, v4, v5, v6, v7 + 1) h
set_option maxHeartbeats 4000000 in
set_option maxRecDepth 20000 in
theorem tb_B_liveYears_114 {G : GG} {k29 : (Nat × Int32 × Int32 × Int32 × Int32 × Int32) → Hp → Option (Int32 × Hp)} (hk29 : ∀ s h, T G M_B_liveYears 4 cI 29 [(0, .ref s.1), (2, .int s.2.1), (3, .int s.2.2.1), (4, .int s.2.2.2.1), (5, .int s.2.2.2.2.1), (6, .int s.2.2.2.2.2)] [] h (k29 s h)) {k50 : (Nat × Int32 × Int32 × Int32 × Int32 × Int32 × Int32) → Hp → Option (Int32 × Hp)} (hk50 : ∀ s h, T G M_B_liveYears 4 cI 50 [(0, .ref s.1), (2, .int s.2.1), (3, .int s.2.2.1), (4, .int s.2.2.2.1), (5, .int s.2.2.2.2.1), (6, .int s.2.2.2.2.2.1), (7, .int s.2.2.2.2.2.2)] [] h (k50 s h)) (v0 : Nat) (v2 : Int32) (v3 : Int32) (v4 : Int32) (v5 : Int32) (v6 : Int32) (v7 : Int32) (h : Hp) : T G M_B_liveYears 4 cI 114 [(0, .ref v0), (2, .int v2), (3, .int v3), (4, .int v4), (5, .int v5), (6, .int v6), (7, .int v7)] [] h (b_B_liveYears_114 k29 k50 v0 v2 v3 v4 v5 v6 v7 h) := by
  unfold b_B_liveYears_114
  refine q_iinc (pc := 114) (v := (1)) (ls' := [(7, .int (v7 + 1)), (0, .ref v0), (2, .int v2), (3, .int v3), (4, .int v4), (5, .int v5), (6, .int v6)]) (dq D_B_liveYears_1_ok 0 rfl) 6 rfl (by decide) rfl rfl ?_
  refine q_goto (pc := 117) 50 (dq D_B_liveYears_1_ok 1 rfl) rfl ?_
  exact T.lsub [1, 2, 3, 4, 5, 6, 0] rfl (hk50 (v0, v2, v3, v4, v5, v6, v7 + 1) h)
noncomputable def b_B_liveYears_50 (k29 : (Nat × Int32 × Int32 × Int32 × Int32 × Int32) → Hp → Option (Int32 × Hp)) (k50 : (Nat × Int32 × Int32 × Int32 × Int32 × Int32 × Int32) → Hp → Option (Int32 × Hp)) (v0 : Nat) (v2 : Int32) (v3 : Int32) (v4 : Int32) (v5 : Int32) (v6 : Int32) (v7 : Int32) (h : Hp) : Option (Int32 × Hp) := gd (hS h v0 = some (.inl 0)) (bR (hR h v0 3) fun x1 => gd (hS h x1 = some (.inl 2)) (lt (hI h x1 2) fun x2 => if x2 ≤ v7 then (if v3 = ((-1)) then (b_B_liveYears_143 k29 v0 v2 v3 v4 v5 v6 h) else (gd (hS h v0 = some (.inl 0)) (bR (hR h v0 3) fun x3 => gd (hS h v0 = some (.inl 0)) (bR (hR h v0 6) fun x4 => gd (hS h x3 = some (.inl 2)) (bd (f_O_isOn x3 v3 x4 h) fun r6 h5 => if r6 = 0 then (b_B_liveYears_143 k29 v0 v2 v3 v4 v5 v6 h5) else (b_B_liveYears_143 k29 v0 v2 v3 (v4 + 1) v5 v6 h5)))))) else (gd (¬ (65537 : Int32) = 0) (lt (irm ((75 * v5) + 74) 65537 : Int32) fun y7 => gd (¬ (100 : Int32) = 0) (gd (hS h v0 = some (.inl 0)) (bR (hR h v0 3) fun x8 => gd (hS h x8 = some (.inl 2)) (lt (hI h x8 1) fun x9 => if x9 ≤ (irm y7 100) then (b_B_liveYears_114 k29 k50 v0 v2 v3 v4 y7 v6 v7 h) else (gd (hS h v0 = some (.inl 0)) (bR (hR h v0 3) fun x10 => gd (hS h v0 = some (.inl 0)) (bR (hR h v0 6) fun x11 => gd (hS h x10 = some (.inl 2)) (bd (f_O_slip x10 x11 v7 h) fun _ h12 => gd (hS h12 v0 = some (.inl 0)) (lt (hI h12 v0 7) fun x14 => gd (hS h12 v0 = some (.inl 0)) (lt (uI h12 v0 7 (x14 + 1)) fun h15 => b_B_liveYears_114 k29 k50 v0 v2 v3 v4 y7 v6 v7 h15)))))))))))))
set_option maxHeartbeats 4000000 in
set_option maxRecDepth 20000 in
theorem tb_B_liveYears_50 {G : GG} {k29 : (Nat × Int32 × Int32 × Int32 × Int32 × Int32) → Hp → Option (Int32 × Hp)} (hk29 : ∀ s h, T G M_B_liveYears 4 cI 29 [(0, .ref s.1), (2, .int s.2.1), (3, .int s.2.2.1), (4, .int s.2.2.2.1), (5, .int s.2.2.2.2.1), (6, .int s.2.2.2.2.2)] [] h (k29 s h)) {k50 : (Nat × Int32 × Int32 × Int32 × Int32 × Int32 × Int32) → Hp → Option (Int32 × Hp)} (hk50 : ∀ s h, T G M_B_liveYears 4 cI 50 [(0, .ref s.1), (2, .int s.2.1), (3, .int s.2.2.1), (4, .int s.2.2.2.1), (5, .int s.2.2.2.2.1), (6, .int s.2.2.2.2.2.1), (7, .int s.2.2.2.2.2.2)] [] h (k50 s h)) (v0 : Nat) (v2 : Int32) (v3 : Int32) (v4 : Int32) (v5 : Int32) (v6 : Int32) (v7 : Int32) (h : Hp) : T G M_B_liveYears 4 cI 50 [(0, .ref v0), (2, .int v2), (3, .int v3), (4, .int v4), (5, .int v5), (6, .int v6), (7, .int v7)] [] h (b_B_liveYears_50 k29 k50 v0 v2 v3 v4 v5 v6 v7 h) := by
  unfold b_B_liveYears_50
  refine q_iload (pc := 50) (dq D_B_liveYears_0_ok 28 rfl) 6 rfl ?_
  refine q_aload_n (pc := 52) (dq D_B_liveYears_0_ok 29 rfl) rfl 0 rfl ?_
  refine q_getR (pc := 53) (dq D_B_liveYears_0_ok 30 rfl) fa_B_23 rfl (fun x1 => ?_)
  refine r_getI (pc := 56) (dq D_B_liveYears_0_ok 31 rfl) fa_B_106 rfl (fun x2 => ?_)
  refine q_ic_ge (pc := 59) 120 (dq D_B_liveYears_0_ok 32 rfl) rfl ?_ ?_
  · refine q_iload_n (pc := 120) (dq D_B_liveYears_1_ok 2 rfl) rfl 2 rfl ?_
    refine q_icm1 (pc := 121) (dq D_B_liveYears_1_ok 3 rfl) ?_
    refine q_ic_eq (pc := 122) 143 (dq D_B_liveYears_1_ok 4 rfl) rfl ?_ ?_
    · exact T.lsub [0, 1, 2, 3, 4, 5] rfl (tb_B_liveYears_143 hk29 v0 v2 v3 v4 v5 v6 h)
    · refine q_aload_n (pc := 125) (dq D_B_liveYears_1_ok 5 rfl) rfl 0 rfl ?_
      refine q_getR (pc := 126) (dq D_B_liveYears_1_ok 6 rfl) fa_B_23 rfl (fun x3 => ?_)
      refine q_iload_n (pc := 129) (dq D_B_liveYears_1_ok 7 rfl) rfl 2 rfl ?_
      refine q_aload_n (pc := 130) (dq D_B_liveYears_1_ok 8 rfl) rfl 0 rfl ?_
      refine q_getR (pc := 131) (dq D_B_liveYears_1_ok 9 rfl) fa_B_34 rfl (fun x4 => ?_)
      refine r_invI (Mc := M_O_isOn) (pc := 134) (ci := 2) (rest := []) 1 2 [.int v3, .ref x4] (dq D_B_liveYears_1_ok 10 rfl) rfl rfl lc_O_isOn lv_O_isOn_ ml_B_331 rfl rfl rfl rfl (t_O_isOn x3 v3 x4 h) (fun r6 h5 => ?_)
      refine p_if_eq (pc := 137) 143 (dq D_B_liveYears_1_ok 11 rfl) rfl ?_ ?_
      · exact T.lsub [0, 1, 2, 3, 4, 5] rfl (tb_B_liveYears_143 hk29 v0 v2 v3 v4 v5 v6 h5)
      · refine q_iinc (pc := 140) (v := (1)) (ls' := [(4, .int (v4 + 1)), (0, .ref v0), (2, .int v2), (3, .int v3), (5, .int v5), (6, .int v6), (7, .int v7)]) (dq D_B_liveYears_1_ok 12 rfl) 3 rfl (by decide) rfl rfl ?_
        exact T.lsub [1, 2, 3, 0, 4, 5] rfl (tb_B_liveYears_143 hk29 v0 v2 v3 (v4 + 1) v5 v6 h5)
  · refine q_bipush (pc := 62) (v := 75) (dq D_B_liveYears_0_ok 33 rfl) (by decide) ?_
    refine q_iload (pc := 64) (dq D_B_liveYears_0_ok 34 rfl) 4 rfl ?_
    refine q_imul (pc := 66) (dq D_B_liveYears_0_ok 35 rfl) ?_
    refine q_bipush (pc := 67) (v := 74) (dq D_B_liveYears_0_ok 36 rfl) (by decide) ?_
    refine q_iadd (pc := 69) (dq D_B_liveYears_0_ok 37 rfl) ?_
    refine q_ldcw (pc := 70) (v := 65537) (dq D_B_liveYears_0_ok 38 rfl) lk_B_323 ?_
    refine q_irem (pc := 73) (dq D_B_liveYears_0_ok 39 rfl) ?_
    refine r_nmI (fun y7 => ?_)
    refine q_istore (pc := 74) (ls' := [(5, .int y7), (0, .ref v0), (2, .int v2), (3, .int v3), (4, .int v4), (6, .int v6), (7, .int v7)]) (dq D_B_liveYears_0_ok 40 rfl) rfl rfl ?_
    refine q_iload (pc := 76) (dq D_B_liveYears_0_ok 41 rfl) 0 rfl ?_
    refine q_bipush (pc := 78) (v := 100) (dq D_B_liveYears_0_ok 42 rfl) (by decide) ?_
    refine q_irem (pc := 80) (dq D_B_liveYears_0_ok 43 rfl) ?_
    refine q_aload_n (pc := 81) (dq D_B_liveYears_0_ok 44 rfl) rfl 1 rfl ?_
    refine q_getR (pc := 82) (dq D_B_liveYears_0_ok 45 rfl) fa_B_23 rfl (fun x8 => ?_)
    refine r_getI (pc := 85) (dq D_B_liveYears_0_ok 46 rfl) fa_B_324 rfl (fun x9 => ?_)
    refine q_ic_ge (pc := 88) 114 (dq D_B_liveYears_0_ok 47 rfl) rfl ?_ ?_
    · exact T.lsub [1, 2, 3, 4, 0, 5, 6] rfl (tb_B_liveYears_114 hk29 hk50 v0 v2 v3 v4 y7 v6 v7 h)
    · refine q_aload_n (pc := 91) (dq D_B_liveYears_0_ok 48 rfl) rfl 1 rfl ?_
      refine q_getR (pc := 92) (dq D_B_liveYears_0_ok 49 rfl) fa_B_23 rfl (fun x10 => ?_)
      refine q_aload_n (pc := 95) (dq D_B_liveYears_0_ok 50 rfl) rfl 1 rfl ?_
      refine q_getR (pc := 96) (dq D_B_liveYears_0_ok 51 rfl) fa_B_34 rfl (fun x11 => ?_)
      refine q_iload (pc := 99) (dq D_B_liveYears_0_ok 52 rfl) 6 rfl ?_
      refine r_invU (Mc := M_O_slip) (pc := 101) (ci := 2) (rest := []) 2 2 [.ref x11, .int v7] (dq D_B_liveYears_0_ok 53 rfl) rfl rfl lc_O_slip lv_O_slip_ ml_B_327 rfl rfl rfl rfl (t_O_slip x10 x11 v7 h) (fun _ h12 => ?_)
      refine q_aload_n (pc := 104) (dq D_B_liveYears_0_ok 54 rfl) rfl 1 rfl ?_
      refine q_dup (pc := 105) (dq D_B_liveYears_0_ok 55 rfl) rfl ?_
      refine r_getI (pc := 106) (dq D_B_liveYears_0_ok 56 rfl) fa_B_310 rfl (fun x14 => ?_)
      refine q_ic1 (pc := 109) (dq D_B_liveYears_0_ok 57 rfl) ?_
      refine q_iadd (pc := 110) (dq D_B_liveYears_0_ok 58 rfl) ?_
      refine r_putI (pc := 111) (dq D_B_liveYears_0_ok 59 rfl) fp_B_310 rfl rfl (fun h15 => ?_)
      exact T.lsub [1, 2, 3, 4, 0, 5, 6] rfl (tb_B_liveYears_114 hk29 hk50 v0 v2 v3 v4 y7 v6 v7 h15)
noncomputable def l_B_liveYears_50 (k29 : (Nat × Int32 × Int32 × Int32 × Int32 × Int32) → Hp → Option (Int32 × Hp)) : Nat → (Nat × Int32 × Int32 × Int32 × Int32 × Int32 × Int32) → Hp → Option (Int32 × Hp) := lp (fun k50 s h => b_B_liveYears_50 k29 k50 s.1 s.2.1 s.2.2.1 s.2.2.2.1 s.2.2.2.2.1 s.2.2.2.2.2.1 s.2.2.2.2.2.2 h)
set_option maxHeartbeats 4000000 in
set_option maxRecDepth 20000 in
theorem tl_B_liveYears_50 {G : GG} {k29 : (Nat × Int32 × Int32 × Int32 × Int32 × Int32) → Hp → Option (Int32 × Hp)} (hk29 : ∀ s h, T G M_B_liveYears 4 cI 29 [(0, .ref s.1), (2, .int s.2.1), (3, .int s.2.2.1), (4, .int s.2.2.2.1), (5, .int s.2.2.2.2.1), (6, .int s.2.2.2.2.2)] [] h (k29 s h)) (n : Nat) (s : Nat × Int32 × Int32 × Int32 × Int32 × Int32 × Int32) (h : Hp) : T G M_B_liveYears 4 cI 50 [(0, .ref s.1), (2, .int s.2.1), (3, .int s.2.2.1), (4, .int s.2.2.2.1), (5, .int s.2.2.2.2.1), (6, .int s.2.2.2.2.2.1), (7, .int s.2.2.2.2.2.2)] [] h (l_B_liveYears_50 k29 n s h) :=
  T.loop (lsOf := fun s => [(0, .ref s.1), (2, .int s.2.1), (3, .int s.2.2.1), (4, .int s.2.2.2.1), (5, .int s.2.2.2.2.1), (6, .int s.2.2.2.2.2.1), (7, .int s.2.2.2.2.2.2)]) (fun k50 hk50 s h => tb_B_liveYears_50 hk29 hk50 s.1 s.2.1 s.2.2.1 s.2.2.2.1 s.2.2.2.2.1 s.2.2.2.2.2.1 s.2.2.2.2.2.2 h) n s h
noncomputable def b_B_liveYears_29 (k29 : (Nat × Int32 × Int32 × Int32 × Int32 × Int32) → Hp → Option (Int32 × Hp)) (v0 : Nat) (v2 : Int32) (v3 : Int32) (v4 : Int32) (v5 : Int32) (v6 : Int32) (h : Hp) : Option (Int32 × Hp) := if v2 ≤ v6 then (some (v4, h)) else (gd (hS h v0 = some (.inl 0)) (bR (hR h v0 3) fun x1 => gd (hS h v0 = some (.inl 0)) (bR (hR h v0 6) fun x2 => gd (hS h x1 = some (.inl 2)) (bd (f_O_goTurn x1 x2 h) fun r4 h3 => lt (0 : Int32) fun y5 => l_B_liveYears_50 k29 FU (v0, v2, v3, v4, v5, v6, y5) h3))))
set_option maxHeartbeats 4000000 in
set_option maxRecDepth 20000 in
theorem tb_B_liveYears_29 {G : GG} {k29 : (Nat × Int32 × Int32 × Int32 × Int32 × Int32) → Hp → Option (Int32 × Hp)} (hk29 : ∀ s h, T G M_B_liveYears 4 cI 29 [(0, .ref s.1), (2, .int s.2.1), (3, .int s.2.2.1), (4, .int s.2.2.2.1), (5, .int s.2.2.2.2.1), (6, .int s.2.2.2.2.2)] [] h (k29 s h)) (v0 : Nat) (v2 : Int32) (v3 : Int32) (v4 : Int32) (v5 : Int32) (v6 : Int32) (h : Hp) : T G M_B_liveYears 4 cI 29 [(0, .ref v0), (2, .int v2), (3, .int v3), (4, .int v4), (5, .int v5), (6, .int v6)] [] h (b_B_liveYears_29 k29 v0 v2 v3 v4 v5 v6 h) := by
  unfold b_B_liveYears_29
  refine q_iload (pc := 29) (dq D_B_liveYears_0_ok 17 rfl) 5 rfl ?_
  refine q_iload_n (pc := 31) (dq D_B_liveYears_0_ok 18 rfl) rfl 1 rfl ?_
  refine q_ic_ge (pc := 32) 149 (dq D_B_liveYears_0_ok 19 rfl) rfl ?_ ?_
  · refine q_iload (pc := 149) (dq D_B_liveYears_1_ok 15 rfl) 3 rfl ?_
    exact r_reti (pc := 151) (dq D_B_liveYears_1_ok 16 rfl) rfl
  · refine q_aload_n (pc := 35) (dq D_B_liveYears_0_ok 20 rfl) rfl 0 rfl ?_
    refine q_getR (pc := 36) (dq D_B_liveYears_0_ok 21 rfl) fa_B_23 rfl (fun x1 => ?_)
    refine q_aload_n (pc := 39) (dq D_B_liveYears_0_ok 22 rfl) rfl 0 rfl ?_
    refine q_getR (pc := 40) (dq D_B_liveYears_0_ok 23 rfl) fa_B_34 rfl (fun x2 => ?_)
    refine r_invI (Mc := M_O_goTurn) (pc := 43) (ci := 2) (rest := []) 3 1 [.ref x2] (dq D_B_liveYears_0_ok 24 rfl) rfl rfl lc_O_goTurn lv_O_goTurn_ ml_B_320 rfl rfl rfl rfl (t_O_goTurn x1 x2 h) (fun r4 h3 => ?_)
    refine q_pop (pc := 46) (dq D_B_liveYears_0_ok 25 rfl) rfl ?_
    refine q_ic0 (pc := 47) (dq D_B_liveYears_0_ok 26 rfl) ?_
    refine r_nmI (fun y5 => ?_)
    refine q_istore (pc := 48) (ls' := [(7, .int y5), (0, .ref v0), (2, .int v2), (3, .int v3), (4, .int v4), (5, .int v5), (6, .int v6)]) (dq D_B_liveYears_0_ok 27 rfl) rfl rfl ?_
    exact T.lsub [1, 2, 3, 4, 5, 6, 0] rfl (tl_B_liveYears_50 hk29 FU (v0, v2, v3, v4, v5, v6, y5) h3)
noncomputable def l_B_liveYears_29 : Nat → (Nat × Int32 × Int32 × Int32 × Int32 × Int32) → Hp → Option (Int32 × Hp) := lp (fun k29 s h => b_B_liveYears_29 k29 s.1 s.2.1 s.2.2.1 s.2.2.2.1 s.2.2.2.2.1 s.2.2.2.2.2 h)
set_option maxHeartbeats 4000000 in
set_option maxRecDepth 20000 in
theorem tl_B_liveYears_29 {G : GG} (n : Nat) (s : Nat × Int32 × Int32 × Int32 × Int32 × Int32) (h : Hp) : T G M_B_liveYears 4 cI 29 [(0, .ref s.1), (2, .int s.2.1), (3, .int s.2.2.1), (4, .int s.2.2.2.1), (5, .int s.2.2.2.2.1), (6, .int s.2.2.2.2.2)] [] h (l_B_liveYears_29 n s h) :=
  T.loop (lsOf := fun s => [(0, .ref s.1), (2, .int s.2.1), (3, .int s.2.2.1), (4, .int s.2.2.2.1), (5, .int s.2.2.2.2.1), (6, .int s.2.2.2.2.2)]) (fun k29 hk29 s h => tb_B_liveYears_29 hk29 s.1 s.2.1 s.2.2.1 s.2.2.2.1 s.2.2.2.2.1 s.2.2.2.2.2 h) n s h
noncomputable def f_B_liveYears (v0 : Nat) (v1 : Int32) (v2 : Int32) (v3 : Int32) (h : Hp) : Option (Int32 × Hp) := gd (hS h v0 = some (.inl 0)) (bR (hR h v0 5) fun x1 => gd (hS h v0 = some (.inl 0)) (bR (hR h v0 6) fun x2 => gd (cpok h x1 x2 0 0 8) (lt (uC h x1 x2 (0 : Int32).toNatClampNeg (0 : Int32).toNatClampNeg (8 : Int32).toNatClampNeg) fun h3 => gd (hS h3 v0 = some (.inl 0)) (lt (uI h3 v0 7 0) fun h4 => lt (0 : Int32) fun y5 => lt (0 : Int32) fun y6 => l_B_liveYears_29 FU (v0, v2, v3, y5, v1, y6) h4))))
set_option maxHeartbeats 4000000 in
set_option maxRecDepth 20000 in
theorem t_B_liveYears {G : GG} (v0 : Nat) (v1 : Int32) (v2 : Int32) (v3 : Int32) (h : Hp) : Mt G M_B_liveYears 4 [.ref v0, .int v1, .int v2, .int v3] cI h (f_B_liveYears v0 v1 v2 v3 h) := by
  refine Mt.ofF (by decide +kernel) rfl (Rt.i rfl rfl) ?_
  show T G M_B_liveYears 4 cI 0 [(0, .ref v0), (1, .int v1), (2, .int v2), (3, .int v3)] [] h _
  unfold f_B_liveYears
  refine q_aload_n (pc := 0) (dq D_B_liveYears_0_ok 0 rfl) rfl 0 rfl ?_
  refine q_getR (pc := 1) (dq D_B_liveYears_0_ok 1 rfl) fa_B_30 rfl (fun x1 => ?_)
  refine q_ic0 (pc := 4) (dq D_B_liveYears_0_ok 2 rfl) ?_
  refine q_aload_n (pc := 5) (dq D_B_liveYears_0_ok 3 rfl) rfl 0 rfl ?_
  refine q_getR (pc := 6) (dq D_B_liveYears_0_ok 4 rfl) fa_B_34 rfl (fun x2 => ?_)
  refine q_ic0 (pc := 9) (dq D_B_liveYears_0_ok 5 rfl) ?_
  refine q_bipush (pc := 10) (v := 8) (dq D_B_liveYears_0_ok 6 rfl) (by decide) ?_
  refine r_copy (pc := 12) (dq D_B_liveYears_0_ok 7 rfl) lk_B_314 lac_n lac_s lac_i rfl rfl (fun h3 => ?_)
  refine q_aload_n (pc := 15) (dq D_B_liveYears_0_ok 8 rfl) rfl 0 rfl ?_
  refine q_ic0 (pc := 16) (dq D_B_liveYears_0_ok 9 rfl) ?_
  refine r_putI (pc := 17) (dq D_B_liveYears_0_ok 10 rfl) fp_B_310 rfl rfl (fun h4 => ?_)
  refine q_ic0 (pc := 20) (dq D_B_liveYears_0_ok 11 rfl) ?_
  refine r_nmI (fun y5 => ?_)
  refine q_istore (pc := 21) (ls' := [(4, .int y5), (0, .ref v0), (1, .int v1), (2, .int v2), (3, .int v3)]) (dq D_B_liveYears_0_ok 12 rfl) rfl rfl ?_
  refine q_iload_n (pc := 23) (dq D_B_liveYears_0_ok 13 rfl) rfl 2 rfl ?_
  refine q_istore (pc := 24) (ls' := [(5, .int v1), (4, .int y5), (0, .ref v0), (1, .int v1), (2, .int v2), (3, .int v3)]) (dq D_B_liveYears_0_ok 14 rfl) rfl rfl ?_
  refine q_ic0 (pc := 26) (dq D_B_liveYears_0_ok 15 rfl) ?_
  refine r_nmI (fun y6 => ?_)
  refine q_istore (pc := 27) (ls' := [(6, .int y6), (5, .int v1), (4, .int y5), (0, .ref v0), (1, .int v1), (2, .int v2), (3, .int v3)]) (dq D_B_liveYears_0_ok 16 rfl) rfl rfl ?_
  exact T.lsub [3, 5, 6, 2, 1, 0] rfl (tl_B_liveYears_29 FU (v0, v2, v3, y5, v1, y6) h4)
noncomputable def f_B_years (v0 : Nat) (v1 : Int32) (v2 : Int32) (v3 : Int32) (h : Hp) : Option (Int32 × Hp) := gd (hS h v0 = some (.inl 0)) (bd (f_B_hasWheel v0 v1 h) fun r2 h1 => if r2 = 0 then (gd (hS h1 v0 = some (.inl 0)) (bd (f_B_refuse v0 (1 : Int32) h1) fun r14 h13 => some (r14, h13))) else (bd (f_B_isNoYear v2 v3 h1) fun r4 h3 => if r4 = 0 then (gd (hS h3 v0 = some (.inl 0)) (bd (f_B_liveYears v0 v2 v3 ((-1)) h3) fun r6 h5 => gd (hS h5 v0 = some (.inl 0)) (bR (hR h5 v0 6) fun x7 => gd (ai h5 x7 0 (3 + v1)) (lt (hI h5 x7 (3 + v1).toNatClampNeg) fun x8 => gd (hS h5 v0 = some (.inl 0)) (bd (f_B_grant v0 x8 h5) fun r10 h9 => some (r10, h9)))))) else (gd (hS h3 v0 = some (.inl 0)) (bd (f_B_refuse v0 (2 : Int32) h3) fun r12 h11 => some (r12, h11)))))
set_option maxHeartbeats 4000000 in
set_option maxRecDepth 20000 in
theorem t_B_years {G : GG} (v0 : Nat) (v1 : Int32) (v2 : Int32) (v3 : Int32) (h : Hp) : Mt G M_B_years 5 [.ref v0, .int v1, .int v2, .int v3] cI h (f_B_years v0 v1 v2 v3 h) := by
  refine Mt.ofF (by decide +kernel) rfl (Rt.i rfl rfl) ?_
  show T G M_B_years 5 cI 0 [(0, .ref v0), (1, .int v1), (2, .int v2), (3, .int v3)] [] h _
  unfold f_B_years
  refine q_aload_n (pc := 0) (dq D_B_years_0_ok 0 rfl) rfl 0 rfl ?_
  refine q_iload_n (pc := 1) (dq D_B_years_0_ok 1 rfl) rfl 1 rfl ?_
  refine r_invI (Mc := M_B_hasWheel) (pc := 2) (ci := 0) (rest := []) 0 1 [.int v1] (dq D_B_years_0_ok 2 rfl) rfl rfl lc_B_hasWheel lv_B_hasWheel_ ml_B_118 rfl rfl rfl rfl (t_B_hasWheel v0 v1 h) (fun r2 h1 => ?_)
  refine p_if_ne (pc := 5) 14 (dq D_B_years_0_ok 3 rfl) rfl ?_ ?_
  · refine q_iload_n (pc := 14) (dq D_B_years_0_ok 8 rfl) rfl 2 rfl ?_
    refine q_iload_n (pc := 15) (dq D_B_years_0_ok 9 rfl) rfl 3 rfl ?_
    refine r_insI (Mc := M_B_isNoYear) (pc := 16) (rest := []) 0 2 [.int v2, .int v3] (dq D_B_years_0_ok 10 rfl) lc_B_isNoYear ls_B_isNoYear ml_B_304 rfl rfl rfl rfl (t_B_isNoYear v2 v3 h1) (fun r4 h3 => ?_)
    refine p_if_eq (pc := 19) 28 (dq D_B_years_0_ok 11 rfl) rfl ?_ ?_
    · refine q_aload_n (pc := 28) (dq D_B_years_0_ok 16 rfl) rfl 0 rfl ?_
      refine q_iload_n (pc := 29) (dq D_B_years_0_ok 17 rfl) rfl 2 rfl ?_
      refine q_iload_n (pc := 30) (dq D_B_years_0_ok 18 rfl) rfl 3 rfl ?_
      refine q_icm1 (pc := 31) (dq D_B_years_0_ok 19 rfl) ?_
      refine r_invI (Mc := M_B_liveYears) (pc := 32) (ci := 0) (rest := []) 4 3 [.int v2, .int v3, .int ((-1))] (dq D_B_years_0_ok 20 rfl) rfl rfl lc_B_liveYears lv_B_liveYears_ ml_B_307 rfl rfl rfl rfl (t_B_liveYears v0 v2 v3 ((-1)) h3) (fun r6 h5 => ?_)
      refine q_pop (pc := 35) (dq D_B_years_0_ok 21 rfl) rfl ?_
      refine q_aload_n (pc := 36) (dq D_B_years_0_ok 22 rfl) rfl 0 rfl ?_
      refine q_aload_n (pc := 37) (dq D_B_years_0_ok 23 rfl) rfl 0 rfl ?_
      refine q_getR (pc := 38) (dq D_B_years_0_ok 24 rfl) fa_B_34 rfl (fun x7 => ?_)
      refine q_ic3 (pc := 41) (dq D_B_years_0_ok 25 rfl) ?_
      refine q_iload_n (pc := 42) (dq D_B_years_0_ok 26 rfl) rfl 1 rfl ?_
      refine q_iadd (pc := 43) (dq D_B_years_0_ok 27 rfl) ?_
      refine r_iald (pc := 44) (dq D_B_years_0_ok 28 rfl) (fun x8 => ?_)
      refine r_invI (Mc := M_B_grant) (pc := 45) (ci := 0) (rest := []) 0 1 [.int x8] (dq D_B_years_0_ok 29 rfl) rfl rfl lc_B_grant lv_B_grant_ ml_B_109 rfl rfl rfl rfl (t_B_grant v0 x8 h5) (fun r10 h9 => ?_)
      exact r_reti (pc := 48) (dq D_B_years_0_ok 30 rfl) rfl
    · refine q_aload_n (pc := 22) (dq D_B_years_0_ok 12 rfl) rfl 0 rfl ?_
      refine q_ic2 (pc := 23) (dq D_B_years_0_ok 13 rfl) ?_
      refine r_invI (Mc := M_B_refuse) (pc := 24) (ci := 0) (rest := []) 0 1 [.int 2] (dq D_B_years_0_ok 14 rfl) rfl rfl lc_B_refuse lv_B_refuse_ ml_B_87 rfl rfl rfl rfl (t_B_refuse v0 (2 : Int32) h3) (fun r12 h11 => ?_)
      exact r_reti (pc := 27) (dq D_B_years_0_ok 15 rfl) rfl
  · refine q_aload_n (pc := 8) (dq D_B_years_0_ok 4 rfl) rfl 0 rfl ?_
    refine q_ic1 (pc := 9) (dq D_B_years_0_ok 5 rfl) ?_
    refine r_invI (Mc := M_B_refuse) (pc := 10) (ci := 0) (rest := []) 0 1 [.int 1] (dq D_B_years_0_ok 6 rfl) rfl rfl lc_B_refuse lv_B_refuse_ ml_B_87 rfl rfl rfl rfl (t_B_refuse v0 (1 : Int32) h1) (fun r14 h13 => ?_)
    exact r_reti (pc := 13) (dq D_B_years_0_ok 7 rfl) rfl
noncomputable def f_B_yearFeasts (v0 : Nat) (v1 : Int32) (v2 : Int32) (v3 : Int32) (h : Hp) : Option (Int32 × Hp) := gd (hS h v0 = some (.inl 0)) (bd (f_B_hasFeast v0 v1 h) fun r2 h1 => if r2 = 0 then (gd (hS h1 v0 = some (.inl 0)) (bd (f_B_refuse v0 (1 : Int32) h1) fun r12 h11 => some (r12, h11))) else (bd (f_B_isNoYear v2 v3 h1) fun r4 h3 => if r4 = 0 then (gd (hS h3 v0 = some (.inl 0)) (bd (f_B_liveYears v0 v2 v3 v1 h3) fun r6 h5 => gd (hS h5 v0 = some (.inl 0)) (bd (f_B_grant v0 r6 h5) fun r8 h7 => some (r8, h7)))) else (gd (hS h3 v0 = some (.inl 0)) (bd (f_B_refuse v0 (2 : Int32) h3) fun r10 h9 => some (r10, h9)))))
set_option maxHeartbeats 4000000 in
set_option maxRecDepth 20000 in
theorem t_B_yearFeasts {G : GG} (v0 : Nat) (v1 : Int32) (v2 : Int32) (v3 : Int32) (h : Hp) : Mt G M_B_yearFeasts 5 [.ref v0, .int v1, .int v2, .int v3] cI h (f_B_yearFeasts v0 v1 v2 v3 h) := by
  refine Mt.ofF (by decide +kernel) rfl (Rt.i rfl rfl) ?_
  show T G M_B_yearFeasts 5 cI 0 [(0, .ref v0), (1, .int v1), (2, .int v2), (3, .int v3)] [] h _
  unfold f_B_yearFeasts
  refine q_aload_n (pc := 0) (dq D_B_yearFeasts_0_ok 0 rfl) rfl 0 rfl ?_
  refine q_iload_n (pc := 1) (dq D_B_yearFeasts_0_ok 1 rfl) rfl 1 rfl ?_
  refine r_invI (Mc := M_B_hasFeast) (pc := 2) (ci := 0) (rest := []) 0 1 [.int v1] (dq D_B_yearFeasts_0_ok 2 rfl) rfl rfl lc_B_hasFeast lv_B_hasFeast_ ml_B_189 rfl rfl rfl rfl (t_B_hasFeast v0 v1 h) (fun r2 h1 => ?_)
  refine p_if_ne (pc := 5) 14 (dq D_B_yearFeasts_0_ok 3 rfl) rfl ?_ ?_
  · refine q_iload_n (pc := 14) (dq D_B_yearFeasts_0_ok 8 rfl) rfl 2 rfl ?_
    refine q_iload_n (pc := 15) (dq D_B_yearFeasts_0_ok 9 rfl) rfl 3 rfl ?_
    refine r_insI (Mc := M_B_isNoYear) (pc := 16) (rest := []) 0 2 [.int v2, .int v3] (dq D_B_yearFeasts_0_ok 10 rfl) lc_B_isNoYear ls_B_isNoYear ml_B_304 rfl rfl rfl rfl (t_B_isNoYear v2 v3 h1) (fun r4 h3 => ?_)
    refine p_if_eq (pc := 19) 28 (dq D_B_yearFeasts_0_ok 11 rfl) rfl ?_ ?_
    · refine q_aload_n (pc := 28) (dq D_B_yearFeasts_0_ok 16 rfl) rfl 0 rfl ?_
      refine q_aload_n (pc := 29) (dq D_B_yearFeasts_0_ok 17 rfl) rfl 0 rfl ?_
      refine q_iload_n (pc := 30) (dq D_B_yearFeasts_0_ok 18 rfl) rfl 2 rfl ?_
      refine q_iload_n (pc := 31) (dq D_B_yearFeasts_0_ok 19 rfl) rfl 3 rfl ?_
      refine q_iload_n (pc := 32) (dq D_B_yearFeasts_0_ok 20 rfl) rfl 1 rfl ?_
      refine r_invI (Mc := M_B_liveYears) (pc := 33) (ci := 0) (rest := [.ref v0]) 4 3 [.int v2, .int v3, .int v1] (dq D_B_yearFeasts_0_ok 21 rfl) rfl rfl lc_B_liveYears lv_B_liveYears_ ml_B_307 rfl rfl rfl rfl (t_B_liveYears v0 v2 v3 v1 h3) (fun r6 h5 => ?_)
      refine r_invI (Mc := M_B_grant) (pc := 36) (ci := 0) (rest := []) 0 1 [.int r6] (dq D_B_yearFeasts_0_ok 22 rfl) rfl rfl lc_B_grant lv_B_grant_ ml_B_109 rfl rfl rfl rfl (t_B_grant v0 r6 h5) (fun r8 h7 => ?_)
      exact r_reti (pc := 39) (dq D_B_yearFeasts_0_ok 23 rfl) rfl
    · refine q_aload_n (pc := 22) (dq D_B_yearFeasts_0_ok 12 rfl) rfl 0 rfl ?_
      refine q_ic2 (pc := 23) (dq D_B_yearFeasts_0_ok 13 rfl) ?_
      refine r_invI (Mc := M_B_refuse) (pc := 24) (ci := 0) (rest := []) 0 1 [.int 2] (dq D_B_yearFeasts_0_ok 14 rfl) rfl rfl lc_B_refuse lv_B_refuse_ ml_B_87 rfl rfl rfl rfl (t_B_refuse v0 (2 : Int32) h3) (fun r10 h9 => ?_)
      exact r_reti (pc := 27) (dq D_B_yearFeasts_0_ok 15 rfl) rfl
  · refine q_aload_n (pc := 8) (dq D_B_yearFeasts_0_ok 4 rfl) rfl 0 rfl ?_
    refine q_ic1 (pc := 9) (dq D_B_yearFeasts_0_ok 5 rfl) ?_
    refine r_invI (Mc := M_B_refuse) (pc := 10) (ci := 0) (rest := []) 0 1 [.int 1] (dq D_B_yearFeasts_0_ok 6 rfl) rfl rfl lc_B_refuse lv_B_refuse_ ml_B_87 rfl rfl rfl rfl (t_B_refuse v0 (1 : Int32) h1) (fun r12 h11 => ?_)
    exact r_reti (pc := 13) (dq D_B_yearFeasts_0_ok 7 rfl) rfl
noncomputable def f_B_slips (v0 : Nat) (v1 : Int32) (v2 : Int32) (h : Hp) : Option (Int32 × Hp) := gd (hS h v0 = some (.inl 0)) (bd (f_B_hasOrrery v0 h) fun r2 h1 => if r2 = 0 then (gd (hS h1 v0 = some (.inl 0)) (bd (f_B_refuse v0 (1 : Int32) h1) fun r13 h12 => some (r13, h12))) else (bd (f_B_isNoYear v1 v2 h1) fun r4 h3 => if r4 = 0 then (gd (hS h3 v0 = some (.inl 0)) (bd (f_B_liveYears v0 v1 v2 ((-1)) h3) fun r6 h5 => gd (hS h5 v0 = some (.inl 0)) (lt (hI h5 v0 7) fun x7 => gd (hS h5 v0 = some (.inl 0)) (bd (f_B_grant v0 x7 h5) fun r9 h8 => some (r9, h8))))) else (gd (hS h3 v0 = some (.inl 0)) (bd (f_B_refuse v0 (2 : Int32) h3) fun r11 h10 => some (r11, h10)))))
set_option maxHeartbeats 4000000 in
set_option maxRecDepth 20000 in
theorem t_B_slips {G : GG} (v0 : Nat) (v1 : Int32) (v2 : Int32) (h : Hp) : Mt G M_B_slips 5 [.ref v0, .int v1, .int v2] cI h (f_B_slips v0 v1 v2 h) := by
  refine Mt.ofF (by decide +kernel) rfl (Rt.i rfl rfl) ?_
  show T G M_B_slips 5 cI 0 [(0, .ref v0), (1, .int v1), (2, .int v2)] [] h _
  unfold f_B_slips
  refine q_aload_n (pc := 0) (dq D_B_slips_0_ok 0 rfl) rfl 0 rfl ?_
  refine r_invI (Mc := M_B_hasOrrery) (pc := 1) (ci := 0) (rest := []) 0 0 [] (dq D_B_slips_0_ok 1 rfl) rfl rfl lc_B_hasOrrery lv_B_hasOrrery_ ml_B_149 rfl rfl rfl rfl (t_B_hasOrrery v0 h) (fun r2 h1 => ?_)
  refine p_if_ne (pc := 4) 13 (dq D_B_slips_0_ok 2 rfl) rfl ?_ ?_
  · refine q_iload_n (pc := 13) (dq D_B_slips_0_ok 7 rfl) rfl 1 rfl ?_
    refine q_iload_n (pc := 14) (dq D_B_slips_0_ok 8 rfl) rfl 2 rfl ?_
    refine r_insI (Mc := M_B_isNoYear) (pc := 15) (rest := []) 0 2 [.int v1, .int v2] (dq D_B_slips_0_ok 9 rfl) lc_B_isNoYear ls_B_isNoYear ml_B_304 rfl rfl rfl rfl (t_B_isNoYear v1 v2 h1) (fun r4 h3 => ?_)
    refine p_if_eq (pc := 18) 27 (dq D_B_slips_0_ok 10 rfl) rfl ?_ ?_
    · refine q_aload_n (pc := 27) (dq D_B_slips_0_ok 15 rfl) rfl 0 rfl ?_
      refine q_iload_n (pc := 28) (dq D_B_slips_0_ok 16 rfl) rfl 1 rfl ?_
      refine q_iload_n (pc := 29) (dq D_B_slips_0_ok 17 rfl) rfl 2 rfl ?_
      refine q_icm1 (pc := 30) (dq D_B_slips_0_ok 18 rfl) ?_
      refine r_invI (Mc := M_B_liveYears) (pc := 31) (ci := 0) (rest := []) 4 3 [.int v1, .int v2, .int ((-1))] (dq D_B_slips_0_ok 19 rfl) rfl rfl lc_B_liveYears lv_B_liveYears_ ml_B_307 rfl rfl rfl rfl (t_B_liveYears v0 v1 v2 ((-1)) h3) (fun r6 h5 => ?_)
      refine q_pop (pc := 34) (dq D_B_slips_0_ok 20 rfl) rfl ?_
      refine q_aload_n (pc := 35) (dq D_B_slips_0_ok 21 rfl) rfl 0 rfl ?_
      refine q_aload_n (pc := 36) (dq D_B_slips_0_ok 22 rfl) rfl 0 rfl ?_
      refine r_getI (pc := 37) (dq D_B_slips_0_ok 23 rfl) fa_B_310 rfl (fun x7 => ?_)
      refine r_invI (Mc := M_B_grant) (pc := 40) (ci := 0) (rest := []) 0 1 [.int x7] (dq D_B_slips_0_ok 24 rfl) rfl rfl lc_B_grant lv_B_grant_ ml_B_109 rfl rfl rfl rfl (t_B_grant v0 x7 h5) (fun r9 h8 => ?_)
      exact r_reti (pc := 43) (dq D_B_slips_0_ok 25 rfl) rfl
    · refine q_aload_n (pc := 21) (dq D_B_slips_0_ok 11 rfl) rfl 0 rfl ?_
      refine q_ic2 (pc := 22) (dq D_B_slips_0_ok 12 rfl) ?_
      refine r_invI (Mc := M_B_refuse) (pc := 23) (ci := 0) (rest := []) 0 1 [.int 2] (dq D_B_slips_0_ok 13 rfl) rfl rfl lc_B_refuse lv_B_refuse_ ml_B_87 rfl rfl rfl rfl (t_B_refuse v0 (2 : Int32) h3) (fun r11 h10 => ?_)
      exact r_reti (pc := 26) (dq D_B_slips_0_ok 14 rfl) rfl
  · refine q_aload_n (pc := 7) (dq D_B_slips_0_ok 3 rfl) rfl 0 rfl ?_
    refine q_ic1 (pc := 8) (dq D_B_slips_0_ok 4 rfl) ?_
    refine r_invI (Mc := M_B_refuse) (pc := 9) (ci := 0) (rest := []) 0 1 [.int 1] (dq D_B_slips_0_ok 5 rfl) rfl rfl lc_B_refuse lv_B_refuse_ ml_B_87 rfl rfl rfl rfl (t_B_refuse v0 (1 : Int32) h1) (fun r13 h12 => ?_)
    exact r_reti (pc := 12) (dq D_B_slips_0_ok 6 rfl) rfl
noncomputable def b_P_keep_38 (v0 : Nat) (s0 : Int32) (s1 : Nat) (h : Hp) : Option (Unit × Hp) := gd (hS h s1 = some (.inl 4)) (lt (uI h s1 3 s0) fun h1 => gd (hS h1 v0 = some (.inl 4)) (lt (hI h1 v0 2) fun x2 => bd (f_Math_min (16 : Int32) (x2 + 1) h1) fun r4 h3 => gd (hS h3 v0 = some (.inl 4)) (lt (uI h3 v0 2 r4) fun h5 => some ((), h5))))
set_option maxHeartbeats 4000000 in
set_option maxRecDepth 20000 in
theorem tb_P_keep_38 {G : GG} (v0 : Nat) (s0 : Int32) (s1 : Nat) (h : Hp) : T G M_P_keep 1 cU 38 [(0, .ref v0)] [.int s0, .ref s1] h (b_P_keep_38 v0 s0 s1 h) := by
  unfold b_P_keep_38
  refine r_putI (pc := 38) (dq D_P_keep_0_ok 21 rfl) fp_P_25 rfl rfl (fun h1 => ?_)
  refine q_aload_n (pc := 41) (dq D_P_keep_0_ok 22 rfl) rfl 0 rfl ?_
  refine q_bipush (pc := 42) (v := 16) (dq D_P_keep_0_ok 23 rfl) (by decide) ?_
  refine q_aload_n (pc := 44) (dq D_P_keep_0_ok 24 rfl) rfl 0 rfl ?_
  refine r_getI (pc := 45) (dq D_P_keep_0_ok 25 rfl) fa_P_18 rfl (fun x2 => ?_)
  refine q_ic1 (pc := 48) (dq D_P_keep_0_ok 26 rfl) ?_
  refine q_iadd (pc := 49) (dq D_P_keep_0_ok 27 rfl) ?_
  refine r_insI (Mc := M_Math_min) (pc := 50) (rest := [.ref v0]) 0 2 [.int 16, .int (x2 + 1)] (dq D_P_keep_0_ok 28 rfl) lc_Math_min ls_Math_min ml_P_34 rfl rfl rfl rfl (t_Math_min (16 : Int32) (x2 + 1) h1) (fun r4 h3 => ?_)
  refine r_putI (pc := 53) (dq D_P_keep_0_ok 29 rfl) fp_P_18 rfl rfl (fun h5 => ?_)
  exact r_retu (pc := 56) (dq D_P_keep_0_ok 30 rfl) rfl
noncomputable def f_P_keep (v0 : Nat) (v1 : Nat) (h : Hp) : Option (Unit × Hp) := gd (hS h v0 = some (.inl 4)) (bR (hR h v0 0) fun x1 => gd (hS h v0 = some (.inl 4)) (lt (hI h v0 3) fun x2 => gd (cpok h v1 x1 0 (x2 * 8) 8) (lt (uC h v1 x1 (0 : Int32).toNatClampNeg (x2 * 8).toNatClampNeg (8 : Int32).toNatClampNeg) fun h3 => gd (hS h3 v0 = some (.inl 4)) (lt (hI h3 v0 3) fun x4 => if x4 = 15 then (b_P_keep_38 v0 0 v0 h3) else (gd (hS h3 v0 = some (.inl 4)) (lt (hI h3 v0 3) fun x5 => b_P_keep_38 v0 (x5 + 1) v0 h3))))))
set_option maxHeartbeats 4000000 in
set_option maxRecDepth 20000 in
theorem t_P_keep {G : GG} (v0 : Nat) (v1 : Nat) (h : Hp) : Mt G M_P_keep 1 [.ref v0, .ref v1] cU h (f_P_keep v0 v1 h) := by
  refine Mt.ofF (by decide +kernel) rfl (Rt.v rfl rfl) ?_
  show T G M_P_keep 1 cU 0 [(0, .ref v0), (1, .ref v1)] [] h _
  unfold f_P_keep
  refine q_aload_n (pc := 0) (dq D_P_keep_0_ok 0 rfl) rfl 1 rfl ?_
  refine q_ic0 (pc := 1) (dq D_P_keep_0_ok 1 rfl) ?_
  refine q_aload_n (pc := 2) (dq D_P_keep_0_ok 2 rfl) rfl 0 rfl ?_
  refine q_getR (pc := 3) (dq D_P_keep_0_ok 3 rfl) fa_P_11 rfl (fun x1 => ?_)
  refine q_aload_n (pc := 6) (dq D_P_keep_0_ok 4 rfl) rfl 0 rfl ?_
  refine r_getI (pc := 7) (dq D_P_keep_0_ok 5 rfl) fa_P_25 rfl (fun x2 => ?_)
  refine q_bipush (pc := 10) (v := 8) (dq D_P_keep_0_ok 6 rfl) (by decide) ?_
  refine q_imul (pc := 12) (dq D_P_keep_0_ok 7 rfl) ?_
  refine q_bipush (pc := 13) (v := 8) (dq D_P_keep_0_ok 8 rfl) (by decide) ?_
  refine r_copy (pc := 15) (dq D_P_keep_0_ok 9 rfl) lk_P_28 lac_n lac_s lac_i rfl rfl (fun h3 => ?_)
  refine q_aload_n (pc := 18) (dq D_P_keep_0_ok 10 rfl) rfl 0 rfl ?_
  refine q_aload_n (pc := 19) (dq D_P_keep_0_ok 11 rfl) rfl 0 rfl ?_
  refine r_getI (pc := 20) (dq D_P_keep_0_ok 12 rfl) fa_P_25 rfl (fun x4 => ?_)
  refine q_bipush (pc := 23) (v := 15) (dq D_P_keep_0_ok 13 rfl) (by decide) ?_
  refine q_ic_ne (pc := 25) 32 (dq D_P_keep_0_ok 14 rfl) rfl ?_ ?_
  · refine q_aload_n (pc := 32) (dq D_P_keep_0_ok 17 rfl) rfl 0 rfl ?_
    refine r_getI (pc := 33) (dq D_P_keep_0_ok 18 rfl) fa_P_25 rfl (fun x5 => ?_)
    refine q_ic1 (pc := 36) (dq D_P_keep_0_ok 19 rfl) ?_
    refine q_iadd (pc := 37) (dq D_P_keep_0_ok 20 rfl) ?_
    exact T.lsub [0] rfl (tb_P_keep_38 v0 (x5 + 1) v0 h3)
  · refine q_ic0 (pc := 28) (dq D_P_keep_0_ok 15 rfl) ?_
    refine q_goto (pc := 29) 38 (dq D_P_keep_0_ok 16 rfl) rfl ?_
    exact T.lsub [0] rfl (tb_P_keep_38 v0 0 v0 h3)
noncomputable def f_B_turn (v0 : Nat) (h : Hp) : Option (Int32 × Hp) := gd (hS h v0 = some (.inl 0)) (bd (f_B_hasOrrery v0 h) fun r2 h1 => if r2 = 0 then (gd (hS h1 v0 = some (.inl 0)) (bd (f_B_refuse v0 (1 : Int32) h1) fun r18 h17 => some (r18, h17))) else (gd (hS h1 v0 = some (.inl 0)) (bR (hR h1 v0 5) fun x3 => gd (ai h1 x3 0 0) (lt (hI h1 x3 (0 : Int32).toNatClampNeg) fun x4 => if x4 < 999999 then (gd (hS h1 v0 = some (.inl 0)) (bR (hR h1 v0 8) fun x5 => gd (hS h1 v0 = some (.inl 0)) (bR (hR h1 v0 5) fun x6 => gd (hS h1 x5 = some (.inl 4)) (bd (f_P_keep x5 x6 h1) fun _ h7 => gd (hS h7 v0 = some (.inl 0)) (bR (hR h7 v0 3) fun x9 => gd (hS h7 v0 = some (.inl 0)) (bR (hR h7 v0 5) fun x10 => gd (hS h7 x9 = some (.inl 2)) (bd (f_O_goTurn x9 x10 h7) fun r12 h11 => gd (hS h11 v0 = some (.inl 0)) (bd (f_B_grant v0 r12 h11) fun r14 h13 => some (r14, h13))))))))) else (gd (hS h1 v0 = some (.inl 0)) (bd (f_B_refuse v0 (3 : Int32) h1) fun r16 h15 => some (r16, h15)))))))
set_option maxHeartbeats 4000000 in
set_option maxRecDepth 20000 in
theorem t_B_turn {G : GG} (v0 : Nat) (h : Hp) : Mt G M_B_turn 4 [.ref v0] cI h (f_B_turn v0 h) := by
  refine Mt.ofF (by decide +kernel) rfl (Rt.i rfl rfl) ?_
  show T G M_B_turn 4 cI 0 [(0, .ref v0)] [] h _
  unfold f_B_turn
  refine q_aload_n (pc := 0) (dq D_B_turn_0_ok 0 rfl) rfl 0 rfl ?_
  refine r_invI (Mc := M_B_hasOrrery) (pc := 1) (ci := 0) (rest := []) 0 0 [] (dq D_B_turn_0_ok 1 rfl) rfl rfl lc_B_hasOrrery lv_B_hasOrrery_ ml_B_149 rfl rfl rfl rfl (t_B_hasOrrery v0 h) (fun r2 h1 => ?_)
  refine p_if_ne (pc := 4) 13 (dq D_B_turn_0_ok 2 rfl) rfl ?_ ?_
  · refine q_aload_n (pc := 13) (dq D_B_turn_0_ok 7 rfl) rfl 0 rfl ?_
    refine q_getR (pc := 14) (dq D_B_turn_0_ok 8 rfl) fa_B_30 rfl (fun x3 => ?_)
    refine q_ic0 (pc := 17) (dq D_B_turn_0_ok 9 rfl) ?_
    refine r_iald (pc := 18) (dq D_B_turn_0_ok 10 rfl) (fun x4 => ?_)
    refine q_ldcw (pc := 19) (v := 999999) (dq D_B_turn_0_ok 11 rfl) lk_B_335 ?_
    refine q_ic_lt (pc := 22) 31 (dq D_B_turn_0_ok 12 rfl) rfl ?_ ?_
    · refine q_aload_n (pc := 31) (dq D_B_turn_0_ok 17 rfl) rfl 0 rfl ?_
      refine q_getR (pc := 32) (dq D_B_turn_0_ok 18 rfl) fa_B_40 rfl (fun x5 => ?_)
      refine q_aload_n (pc := 35) (dq D_B_turn_0_ok 19 rfl) rfl 0 rfl ?_
      refine q_getR (pc := 36) (dq D_B_turn_0_ok 20 rfl) fa_B_30 rfl (fun x6 => ?_)
      refine r_invU (Mc := M_P_keep) (pc := 39) (ci := 4) (rest := []) 1 1 [.ref x6] (dq D_B_turn_0_ok 21 rfl) rfl rfl lc_P_keep lv_P_keep_ ml_B_336 rfl rfl rfl rfl (t_P_keep x5 x6 h1) (fun _ h7 => ?_)
      refine q_aload_n (pc := 42) (dq D_B_turn_0_ok 22 rfl) rfl 0 rfl ?_
      refine q_aload_n (pc := 43) (dq D_B_turn_0_ok 23 rfl) rfl 0 rfl ?_
      refine q_getR (pc := 44) (dq D_B_turn_0_ok 24 rfl) fa_B_23 rfl (fun x9 => ?_)
      refine q_aload_n (pc := 47) (dq D_B_turn_0_ok 25 rfl) rfl 0 rfl ?_
      refine q_getR (pc := 48) (dq D_B_turn_0_ok 26 rfl) fa_B_30 rfl (fun x10 => ?_)
      refine r_invI (Mc := M_O_goTurn) (pc := 51) (ci := 2) (rest := [.ref v0]) 3 1 [.ref x10] (dq D_B_turn_0_ok 27 rfl) rfl rfl lc_O_goTurn lv_O_goTurn_ ml_B_320 rfl rfl rfl rfl (t_O_goTurn x9 x10 h7) (fun r12 h11 => ?_)
      refine r_invI (Mc := M_B_grant) (pc := 54) (ci := 0) (rest := []) 0 1 [.int r12] (dq D_B_turn_0_ok 28 rfl) rfl rfl lc_B_grant lv_B_grant_ ml_B_109 rfl rfl rfl rfl (t_B_grant v0 r12 h11) (fun r14 h13 => ?_)
      exact r_reti (pc := 57) (dq D_B_turn_0_ok 29 rfl) rfl
    · refine q_aload_n (pc := 25) (dq D_B_turn_0_ok 13 rfl) rfl 0 rfl ?_
      refine q_ic3 (pc := 26) (dq D_B_turn_0_ok 14 rfl) ?_
      refine r_invI (Mc := M_B_refuse) (pc := 27) (ci := 0) (rest := []) 0 1 [.int 3] (dq D_B_turn_0_ok 15 rfl) rfl rfl lc_B_refuse lv_B_refuse_ ml_B_87 rfl rfl rfl rfl (t_B_refuse v0 (3 : Int32) h1) (fun r16 h15 => ?_)
      exact r_reti (pc := 30) (dq D_B_turn_0_ok 16 rfl) rfl
  · refine q_aload_n (pc := 7) (dq D_B_turn_0_ok 3 rfl) rfl 0 rfl ?_
    refine q_ic1 (pc := 8) (dq D_B_turn_0_ok 4 rfl) ?_
    refine r_invI (Mc := M_B_refuse) (pc := 9) (ci := 0) (rest := []) 0 1 [.int 1] (dq D_B_turn_0_ok 5 rfl) rfl rfl lc_B_refuse lv_B_refuse_ ml_B_87 rfl rfl rfl rfl (t_B_refuse v0 (1 : Int32) h1) (fun r18 h17 => ?_)
    exact r_reti (pc := 12) (dq D_B_turn_0_ok 6 rfl) rfl
noncomputable def f_B_turnBack (v0 : Nat) (h : Hp) : Option (Int32 × Hp) := gd (hS h v0 = some (.inl 0)) (bd (f_B_hasOrrery v0 h) fun r2 h1 => if r2 = 0 then (gd (hS h1 v0 = some (.inl 0)) (bd (f_B_refuse v0 (1 : Int32) h1) fun r18 h17 => some (r18, h17))) else (gd (hS h1 v0 = some (.inl 0)) (bR (hR h1 v0 5) fun x3 => gd (ai h1 x3 0 0) (lt (hI h1 x3 (0 : Int32).toNatClampNeg) fun x4 => if 0 < x4 then (gd (hS h1 v0 = some (.inl 0)) (bR (hR h1 v0 8) fun x5 => gd (hS h1 v0 = some (.inl 0)) (bR (hR h1 v0 5) fun x6 => gd (hS h1 x5 = some (.inl 4)) (bd (f_P_keep x5 x6 h1) fun _ h7 => gd (hS h7 v0 = some (.inl 0)) (bR (hR h7 v0 3) fun x9 => gd (hS h7 v0 = some (.inl 0)) (bR (hR h7 v0 5) fun x10 => gd (hS h7 x9 = some (.inl 2)) (bd (f_O_goTurnBack x9 x10 h7) fun r12 h11 => gd (hS h11 v0 = some (.inl 0)) (bd (f_B_grant v0 r12 h11) fun r14 h13 => some (r14, h13))))))))) else (gd (hS h1 v0 = some (.inl 0)) (bd (f_B_refuse v0 (5 : Int32) h1) fun r16 h15 => some (r16, h15)))))))
set_option maxHeartbeats 4000000 in
set_option maxRecDepth 20000 in
theorem t_B_turnBack {G : GG} (v0 : Nat) (h : Hp) : Mt G M_B_turnBack 4 [.ref v0] cI h (f_B_turnBack v0 h) := by
  refine Mt.ofF (by decide +kernel) rfl (Rt.i rfl rfl) ?_
  show T G M_B_turnBack 4 cI 0 [(0, .ref v0)] [] h _
  unfold f_B_turnBack
  refine q_aload_n (pc := 0) (dq D_B_turnBack_0_ok 0 rfl) rfl 0 rfl ?_
  refine r_invI (Mc := M_B_hasOrrery) (pc := 1) (ci := 0) (rest := []) 0 0 [] (dq D_B_turnBack_0_ok 1 rfl) rfl rfl lc_B_hasOrrery lv_B_hasOrrery_ ml_B_149 rfl rfl rfl rfl (t_B_hasOrrery v0 h) (fun r2 h1 => ?_)
  refine p_if_ne (pc := 4) 13 (dq D_B_turnBack_0_ok 2 rfl) rfl ?_ ?_
  · refine q_aload_n (pc := 13) (dq D_B_turnBack_0_ok 7 rfl) rfl 0 rfl ?_
    refine q_getR (pc := 14) (dq D_B_turnBack_0_ok 8 rfl) fa_B_30 rfl (fun x3 => ?_)
    refine q_ic0 (pc := 17) (dq D_B_turnBack_0_ok 9 rfl) ?_
    refine r_iald (pc := 18) (dq D_B_turnBack_0_ok 10 rfl) (fun x4 => ?_)
    refine p_if_gt (pc := 19) 28 (dq D_B_turnBack_0_ok 11 rfl) rfl ?_ ?_
    · refine q_aload_n (pc := 28) (dq D_B_turnBack_0_ok 16 rfl) rfl 0 rfl ?_
      refine q_getR (pc := 29) (dq D_B_turnBack_0_ok 17 rfl) fa_B_40 rfl (fun x5 => ?_)
      refine q_aload_n (pc := 32) (dq D_B_turnBack_0_ok 18 rfl) rfl 0 rfl ?_
      refine q_getR (pc := 33) (dq D_B_turnBack_0_ok 19 rfl) fa_B_30 rfl (fun x6 => ?_)
      refine r_invU (Mc := M_P_keep) (pc := 36) (ci := 4) (rest := []) 1 1 [.ref x6] (dq D_B_turnBack_0_ok 20 rfl) rfl rfl lc_P_keep lv_P_keep_ ml_B_336 rfl rfl rfl rfl (t_P_keep x5 x6 h1) (fun _ h7 => ?_)
      refine q_aload_n (pc := 39) (dq D_B_turnBack_0_ok 21 rfl) rfl 0 rfl ?_
      refine q_aload_n (pc := 40) (dq D_B_turnBack_0_ok 22 rfl) rfl 0 rfl ?_
      refine q_getR (pc := 41) (dq D_B_turnBack_0_ok 23 rfl) fa_B_23 rfl (fun x9 => ?_)
      refine q_aload_n (pc := 44) (dq D_B_turnBack_0_ok 24 rfl) rfl 0 rfl ?_
      refine q_getR (pc := 45) (dq D_B_turnBack_0_ok 25 rfl) fa_B_30 rfl (fun x10 => ?_)
      refine r_invI (Mc := M_O_goTurnBack) (pc := 48) (ci := 2) (rest := [.ref v0]) 3 1 [.ref x10] (dq D_B_turnBack_0_ok 26 rfl) rfl rfl lc_O_goTurnBack lv_O_goTurnBack_ ml_B_339 rfl rfl rfl rfl (t_O_goTurnBack x9 x10 h7) (fun r12 h11 => ?_)
      refine r_invI (Mc := M_B_grant) (pc := 51) (ci := 0) (rest := []) 0 1 [.int r12] (dq D_B_turnBack_0_ok 27 rfl) rfl rfl lc_B_grant lv_B_grant_ ml_B_109 rfl rfl rfl rfl (t_B_grant v0 r12 h11) (fun r14 h13 => ?_)
      exact r_reti (pc := 54) (dq D_B_turnBack_0_ok 28 rfl) rfl
    · refine q_aload_n (pc := 22) (dq D_B_turnBack_0_ok 12 rfl) rfl 0 rfl ?_
      refine q_ic5 (pc := 23) (dq D_B_turnBack_0_ok 13 rfl) ?_
      refine r_invI (Mc := M_B_refuse) (pc := 24) (ci := 0) (rest := []) 0 1 [.int 5] (dq D_B_turnBack_0_ok 14 rfl) rfl rfl lc_B_refuse lv_B_refuse_ ml_B_87 rfl rfl rfl rfl (t_B_refuse v0 (5 : Int32) h1) (fun r16 h15 => ?_)
      exact r_reti (pc := 27) (dq D_B_turnBack_0_ok 15 rfl) rfl
  · refine q_aload_n (pc := 7) (dq D_B_turnBack_0_ok 3 rfl) rfl 0 rfl ?_
    refine q_ic1 (pc := 8) (dq D_B_turnBack_0_ok 4 rfl) ?_
    refine r_invI (Mc := M_B_refuse) (pc := 9) (ci := 0) (rest := []) 0 1 [.int 1] (dq D_B_turnBack_0_ok 5 rfl) rfl rfl lc_B_refuse lv_B_refuse_ ml_B_87 rfl rfl rfl rfl (t_B_refuse v0 (1 : Int32) h1) (fun r18 h17 => ?_)
    exact r_reti (pc := 12) (dq D_B_turnBack_0_ok 6 rfl) rfl
noncomputable def b_B_oil_24 (v0 : Nat) (h : Hp) : Option (Int32 × Hp) := gd (hS h v0 = some (.inl 0)) (bd (f_B_refuse v0 (2 : Int32) h) fun r2 h1 => some (r2, h1))
set_option maxHeartbeats 4000000 in
set_option maxRecDepth 20000 in
theorem tb_B_oil_24 {G : GG} (v0 : Nat) (h : Hp) : T G M_B_oil 2 cI 24 [(0, .ref v0)] [] h (b_B_oil_24 v0 h) := by
  unfold b_B_oil_24
  refine q_aload_n (pc := 24) (dq D_B_oil_0_ok 13 rfl) rfl 0 rfl ?_
  refine q_ic2 (pc := 25) (dq D_B_oil_0_ok 14 rfl) ?_
  refine r_invI (Mc := M_B_refuse) (pc := 26) (ci := 0) (rest := []) 0 1 [.int 2] (dq D_B_oil_0_ok 15 rfl) rfl rfl lc_B_refuse lv_B_refuse_ ml_B_87 rfl rfl rfl rfl (t_B_refuse v0 (2 : Int32) h) (fun r2 h1 => ?_)
  exact r_reti (pc := 29) (dq D_B_oil_0_ok 16 rfl) rfl
noncomputable def f_B_oil (v0 : Nat) (v1 : Int32) (h : Hp) : Option (Int32 × Hp) := gd (hS h v0 = some (.inl 0)) (bd (f_B_hasOrrery v0 h) fun r2 h1 => if r2 = 0 then (gd (hS h1 v0 = some (.inl 0)) (bd (f_B_refuse v0 (1 : Int32) h1) fun r22 h21 => some (r22, h21))) else (if v1 < 1 then (b_B_oil_24 v0 h1) else (if v1 ≤ 99 then (gd (hS h1 v0 = some (.inl 0)) (bR (hR h1 v0 5) fun x3 => gd (ai h1 x3 0 1) (lt (hI h1 x3 (1 : Int32).toNatClampNeg) fun x4 => if x4 < 99 then (gd (hS h1 v0 = some (.inl 0)) (bR (hR h1 v0 8) fun x5 => gd (hS h1 v0 = some (.inl 0)) (bR (hR h1 v0 5) fun x6 => gd (hS h1 x5 = some (.inl 4)) (bd (f_P_keep x5 x6 h1) fun _ h7 => gd (hS h7 v0 = some (.inl 0)) (bR (hR h7 v0 5) fun x9 => gd (hS h7 v0 = some (.inl 0)) (bR (hR h7 v0 5) fun x10 => gd (ai h7 x10 0 1) (lt (hI h7 x10 (1 : Int32).toNatClampNeg) fun x11 => bd (f_Math_min (99 : Int32) (x11 + v1) h7) fun r13 h12 => gd (ai h12 x9 0 1) (lt (uI h12 x9 (1 : Int32).toNatClampNeg r13) fun h14 => gd (hS h14 v0 = some (.inl 0)) (bR (hR h14 v0 5) fun x15 => gd (ai h14 x15 0 1) (lt (hI h14 x15 (1 : Int32).toNatClampNeg) fun x16 => gd (hS h14 v0 = some (.inl 0)) (bd (f_B_grant v0 x16 h14) fun r18 h17 => some (r18, h17)))))))))))) else (gd (hS h1 v0 = some (.inl 0)) (bd (f_B_refuse v0 (5 : Int32) h1) fun r20 h19 => some (r20, h19)))))) else (b_B_oil_24 v0 h1))))
set_option maxHeartbeats 4000000 in
set_option maxRecDepth 20000 in
theorem t_B_oil {G : GG} (v0 : Nat) (v1 : Int32) (h : Hp) : Mt G M_B_oil 2 [.ref v0, .int v1] cI h (f_B_oil v0 v1 h) := by
  refine Mt.ofF (by decide +kernel) rfl (Rt.i rfl rfl) ?_
  show T G M_B_oil 2 cI 0 [(0, .ref v0), (1, .int v1)] [] h _
  unfold f_B_oil
  refine q_aload_n (pc := 0) (dq D_B_oil_0_ok 0 rfl) rfl 0 rfl ?_
  refine r_invI (Mc := M_B_hasOrrery) (pc := 1) (ci := 0) (rest := []) 0 0 [] (dq D_B_oil_0_ok 1 rfl) rfl rfl lc_B_hasOrrery lv_B_hasOrrery_ ml_B_149 rfl rfl rfl rfl (t_B_hasOrrery v0 h) (fun r2 h1 => ?_)
  refine p_if_ne (pc := 4) 13 (dq D_B_oil_0_ok 2 rfl) rfl ?_ ?_
  · refine q_iload_n (pc := 13) (dq D_B_oil_0_ok 7 rfl) rfl 1 rfl ?_
    refine q_ic1 (pc := 14) (dq D_B_oil_0_ok 8 rfl) ?_
    refine q_ic_lt (pc := 15) 24 (dq D_B_oil_0_ok 9 rfl) rfl ?_ ?_
    · exact T.lsub [0] rfl (tb_B_oil_24 v0 h1)
    · refine q_iload_n (pc := 18) (dq D_B_oil_0_ok 10 rfl) rfl 1 rfl ?_
      refine q_bipush (pc := 19) (v := 99) (dq D_B_oil_0_ok 11 rfl) (by decide) ?_
      refine q_ic_le (pc := 21) 30 (dq D_B_oil_0_ok 12 rfl) rfl ?_ ?_
      · refine q_aload_n (pc := 30) (dq D_B_oil_0_ok 17 rfl) rfl 0 rfl ?_
        refine q_getR (pc := 31) (dq D_B_oil_0_ok 18 rfl) fa_B_30 rfl (fun x3 => ?_)
        refine q_ic1 (pc := 34) (dq D_B_oil_0_ok 19 rfl) ?_
        refine r_iald (pc := 35) (dq D_B_oil_0_ok 20 rfl) (fun x4 => ?_)
        refine q_bipush (pc := 36) (v := 99) (dq D_B_oil_0_ok 21 rfl) (by decide) ?_
        refine q_ic_lt (pc := 38) 47 (dq D_B_oil_0_ok 22 rfl) rfl ?_ ?_
        · refine q_aload_n (pc := 47) (dq D_B_oil_0_ok 27 rfl) rfl 0 rfl ?_
          refine q_getR (pc := 48) (dq D_B_oil_0_ok 28 rfl) fa_B_40 rfl (fun x5 => ?_)
          refine q_aload_n (pc := 51) (dq D_B_oil_0_ok 29 rfl) rfl 0 rfl ?_
          refine q_getR (pc := 52) (dq D_B_oil_0_ok 30 rfl) fa_B_30 rfl (fun x6 => ?_)
          refine r_invU (Mc := M_P_keep) (pc := 55) (ci := 4) (rest := []) 1 1 [.ref x6] (dq D_B_oil_0_ok 31 rfl) rfl rfl lc_P_keep lv_P_keep_ ml_B_336 rfl rfl rfl rfl (t_P_keep x5 x6 h1) (fun _ h7 => ?_)
          refine q_aload_n (pc := 58) (dq D_B_oil_0_ok 32 rfl) rfl 0 rfl ?_
          refine q_getR (pc := 59) (dq D_B_oil_0_ok 33 rfl) fa_B_30 rfl (fun x9 => ?_)
          refine q_ic1 (pc := 62) (dq D_B_oil_0_ok 34 rfl) ?_
          refine q_bipush (pc := 63) (v := 99) (dq D_B_oil_0_ok 35 rfl) (by decide) ?_
          refine q_aload_n (pc := 65) (dq D_B_oil_0_ok 36 rfl) rfl 0 rfl ?_
          refine q_getR (pc := 66) (dq D_B_oil_0_ok 37 rfl) fa_B_30 rfl (fun x10 => ?_)
          refine q_ic1 (pc := 69) (dq D_B_oil_0_ok 38 rfl) ?_
          refine r_iald (pc := 70) (dq D_B_oil_0_ok 39 rfl) (fun x11 => ?_)
          refine q_iload_n (pc := 71) (dq D_B_oil_0_ok 40 rfl) rfl 1 rfl ?_
          refine q_iadd (pc := 72) (dq D_B_oil_0_ok 41 rfl) ?_
          refine r_insI (Mc := M_Math_min) (pc := 73) (rest := [.int 1, .ref x9]) 0 2 [.int 99, .int (x11 + v1)] (dq D_B_oil_0_ok 42 rfl) lc_Math_min ls_Math_min ml_B_342 rfl rfl rfl rfl (t_Math_min (99 : Int32) (x11 + v1) h7) (fun r13 h12 => ?_)
          refine r_iast (pc := 76) (dq D_B_oil_0_ok 43 rfl) (fun h14 => ?_)
          refine q_aload_n (pc := 77) (dq D_B_oil_0_ok 44 rfl) rfl 0 rfl ?_
          refine q_aload_n (pc := 78) (dq D_B_oil_0_ok 45 rfl) rfl 0 rfl ?_
          refine q_getR (pc := 79) (dq D_B_oil_0_ok 46 rfl) fa_B_30 rfl (fun x15 => ?_)
          refine q_ic1 (pc := 82) (dq D_B_oil_0_ok 47 rfl) ?_
          refine r_iald (pc := 83) (dq D_B_oil_0_ok 48 rfl) (fun x16 => ?_)
          refine r_invI (Mc := M_B_grant) (pc := 84) (ci := 0) (rest := []) 0 1 [.int x16] (dq D_B_oil_0_ok 49 rfl) rfl rfl lc_B_grant lv_B_grant_ ml_B_109 rfl rfl rfl rfl (t_B_grant v0 x16 h14) (fun r18 h17 => ?_)
          exact r_reti (pc := 87) (dq D_B_oil_0_ok 50 rfl) rfl
        · refine q_aload_n (pc := 41) (dq D_B_oil_0_ok 23 rfl) rfl 0 rfl ?_
          refine q_ic5 (pc := 42) (dq D_B_oil_0_ok 24 rfl) ?_
          refine r_invI (Mc := M_B_refuse) (pc := 43) (ci := 0) (rest := []) 0 1 [.int 5] (dq D_B_oil_0_ok 25 rfl) rfl rfl lc_B_refuse lv_B_refuse_ ml_B_87 rfl rfl rfl rfl (t_B_refuse v0 (5 : Int32) h1) (fun r20 h19 => ?_)
          exact r_reti (pc := 46) (dq D_B_oil_0_ok 26 rfl) rfl
      · exact T.lsub [0] rfl (tb_B_oil_24 v0 h1)
  · refine q_aload_n (pc := 7) (dq D_B_oil_0_ok 3 rfl) rfl 0 rfl ?_
    refine q_ic1 (pc := 8) (dq D_B_oil_0_ok 4 rfl) ?_
    refine r_invI (Mc := M_B_refuse) (pc := 9) (ci := 0) (rest := []) 0 1 [.int 1] (dq D_B_oil_0_ok 5 rfl) rfl rfl lc_B_refuse lv_B_refuse_ ml_B_87 rfl rfl rfl rfl (t_B_refuse v0 (1 : Int32) h1) (fun r22 h21 => ?_)
    exact r_reti (pc := 12) (dq D_B_oil_0_ok 6 rfl) rfl
noncomputable def f_B_deny (v0 : Nat) (v1 : Int32) (h : Hp) : Option (Int32 × Hp) := gd (hS h v0 = some (.inl 0)) (lt (uI h v0 15 v1) fun h1 => gd (zb 0) (some (0, h1)))
set_option maxHeartbeats 4000000 in
set_option maxRecDepth 20000 in
theorem t_B_deny {G : GG} (v0 : Nat) (v1 : Int32) (h : Hp) : Mt G M_B_deny 0 [.ref v0, .int v1] cI h (f_B_deny v0 v1 h) := by
  refine Mt.ofF (by decide +kernel) rfl (Rt.z rfl rfl) ?_
  show T G M_B_deny 0 cI 0 [(0, .ref v0), (1, .int v1)] [] h _
  unfold f_B_deny
  refine q_aload_n (pc := 0) (dq D_B_deny_0_ok 0 rfl) rfl 0 rfl ?_
  refine q_iload_n (pc := 1) (dq D_B_deny_0_ok 1 rfl) rfl 1 rfl ?_
  refine r_putI (pc := 2) (dq D_B_deny_0_ok 2 rfl) fp_B_112 rfl rfl (fun h1 => ?_)
  refine q_ic0 (pc := 5) (dq D_B_deny_0_ok 3 rfl) ?_
  exact r_retz (pc := 6) (dq D_B_deny_0_ok 4 rfl) rfl
noncomputable def f_B_allow (v0 : Nat) (h : Hp) : Option (Int32 × Hp) := gd (hS h v0 = some (.inl 0)) (lt (uI h v0 15 0) fun h1 => gd (zb 1) (some (1, h1)))
set_option maxHeartbeats 4000000 in
set_option maxRecDepth 20000 in
theorem t_B_allow {G : GG} (v0 : Nat) (h : Hp) : Mt G M_B_allow 0 [.ref v0] cI h (f_B_allow v0 h) := by
  refine Mt.ofF (by decide +kernel) rfl (Rt.z rfl rfl) ?_
  show T G M_B_allow 0 cI 0 [(0, .ref v0)] [] h _
  unfold f_B_allow
  refine q_aload_n (pc := 0) (dq D_B_allow_0_ok 0 rfl) rfl 0 rfl ?_
  refine q_ic0 (pc := 1) (dq D_B_allow_0_ok 1 rfl) ?_
  refine r_putI (pc := 2) (dq D_B_allow_0_ok 2 rfl) fp_B_112 rfl rfl (fun h1 => ?_)
  refine q_ic1 (pc := 5) (dq D_B_allow_0_ok 3 rfl) ?_
  exact r_retz (pc := 6) (dq D_B_allow_0_ok 4 rfl) rfl
noncomputable def b_B_set_46 (v0 : Nat) (h : Hp) : Option (Int32 × Hp) := gd (hS h v0 = some (.inl 0)) (bd (f_B_deny v0 (2 : Int32) h) fun r2 h1 => gd (zb r2) (some (r2, h1)))
set_option maxHeartbeats 4000000 in
set_option maxRecDepth 20000 in
theorem tb_B_set_46 {G : GG} (v0 : Nat) (h : Hp) : T G M_B_set 2 cI 46 [(0, .ref v0)] [] h (b_B_set_46 v0 h) := by
  unfold b_B_set_46
  refine q_aload_n (pc := 46) (dq D_B_set_0_ok 24 rfl) rfl 0 rfl ?_
  refine q_ic2 (pc := 47) (dq D_B_set_0_ok 25 rfl) ?_
  refine r_invI (Mc := M_B_deny) (pc := 48) (ci := 0) (rest := []) 0 1 [.int 2] (dq D_B_set_0_ok 26 rfl) rfl rfl lc_B_deny lv_B_deny_ ml_B_347 rfl rfl rfl rfl (t_B_deny v0 (2 : Int32) h) (fun r2 h1 => ?_)
  exact r_retz (pc := 51) (dq D_B_set_0_ok 27 rfl) rfl
noncomputable def f_B_set (v0 : Nat) (v1 : Int32) (v2 : Int32) (h : Hp) : Option (Int32 × Hp) := gd (hS h v0 = some (.inl 0)) (bd (f_B_hasWheel v0 v1 h) fun r2 h1 => if r2 = 0 then (gd (hS h1 v0 = some (.inl 0)) (bd (f_B_deny v0 (1 : Int32) h1) fun r26 h25 => gd (zb r26) (some (r26, h25)))) else (gd (hS h1 v0 = some (.inl 0)) (bR (hR h1 v0 3) fun x3 => gd (hS h1 x3 = some (.inl 2)) (bR (hR h1 x3 3) fun x4 => gd (ai h1 x4 4 v1) (bR (hR h1 x4 v1.toNatClampNeg) fun x5 => gd (hS h1 x5 = some (.inl 3)) (bd (f_W_hasTooth x5 v2 h1) fun r7 h6 => if r7 = 0 then (b_B_set_46 v0 h6) else (gd (hS h6 v0 = some (.inl 0)) (bR (hR h6 v0 3) fun x8 => gd (hS h6 x8 = some (.inl 2)) (bR (hR h6 x8 3) fun x9 => gd (ai h6 x9 4 v1) (bR (hR h6 x9 v1.toNatClampNeg) fun x10 => gd (hS h6 x10 = some (.inl 3)) (bd (f_W_lacks x10 v2 h6) fun r12 h11 => if r12 = 0 then (gd (hS h11 v0 = some (.inl 0)) (bR (hR h11 v0 5) fun x13 => gd (ai h11 x13 0 (3 + v1)) (lt (hI h11 x13 (3 + v1).toNatClampNeg) fun x14 => if x14 = v2 then (gd (hS h11 v0 = some (.inl 0)) (bd (f_B_deny v0 (5 : Int32) h11) fun r24 h23 => gd (zb r24) (some (r24, h23)))) else (gd (hS h11 v0 = some (.inl 0)) (bR (hR h11 v0 8) fun x15 => gd (hS h11 v0 = some (.inl 0)) (bR (hR h11 v0 5) fun x16 => gd (hS h11 x15 = some (.inl 4)) (bd (f_P_keep x15 x16 h11) fun _ h17 => gd (hS h17 v0 = some (.inl 0)) (bR (hR h17 v0 5) fun x19 => gd (ai h17 x19 0 (3 + v1)) (lt (uI h17 x19 (3 + v1).toNatClampNeg v2) fun h20 => gd (hS h20 v0 = some (.inl 0)) (bd (f_B_allow v0 h20) fun r22 h21 => gd (zb r22) (some (r22, h21)))))))))))) else (b_B_set_46 v0 h11))))))))))))
set_option maxHeartbeats 4000000 in
set_option maxRecDepth 20000 in
theorem t_B_set {G : GG} (v0 : Nat) (v1 : Int32) (v2 : Int32) (h : Hp) : Mt G M_B_set 2 [.ref v0, .int v1, .int v2] cI h (f_B_set v0 v1 v2 h) := by
  refine Mt.ofF (by decide +kernel) rfl (Rt.z rfl rfl) ?_
  show T G M_B_set 2 cI 0 [(0, .ref v0), (1, .int v1), (2, .int v2)] [] h _
  unfold f_B_set
  refine q_aload_n (pc := 0) (dq D_B_set_0_ok 0 rfl) rfl 0 rfl ?_
  refine q_iload_n (pc := 1) (dq D_B_set_0_ok 1 rfl) rfl 1 rfl ?_
  refine r_invI (Mc := M_B_hasWheel) (pc := 2) (ci := 0) (rest := []) 0 1 [.int v1] (dq D_B_set_0_ok 2 rfl) rfl rfl lc_B_hasWheel lv_B_hasWheel_ ml_B_118 rfl rfl rfl rfl (t_B_hasWheel v0 v1 h) (fun r2 h1 => ?_)
  refine p_if_ne (pc := 5) 14 (dq D_B_set_0_ok 3 rfl) rfl ?_ ?_
  · refine q_aload_n (pc := 14) (dq D_B_set_0_ok 8 rfl) rfl 0 rfl ?_
    refine q_getR (pc := 15) (dq D_B_set_0_ok 9 rfl) fa_B_23 rfl (fun x3 => ?_)
    refine q_getR (pc := 18) (dq D_B_set_0_ok 10 rfl) fa_B_122 rfl (fun x4 => ?_)
    refine q_iload_n (pc := 21) (dq D_B_set_0_ok 11 rfl) rfl 1 rfl ?_
    refine r_aald (pc := 22) 4 (dq D_B_set_0_ok 12 rfl) rfl rfl (fun _ => rfl) (fun x5 => ?_)
    refine q_iload_n (pc := 23) (dq D_B_set_0_ok 13 rfl) rfl 2 rfl ?_
    refine r_invI (Mc := M_W_hasTooth) (pc := 24) (ci := 3) (rest := []) 0 1 [.int v2] (dq D_B_set_0_ok 14 rfl) rfl rfl lc_W_hasTooth lv_W_hasTooth_ ml_B_143 rfl rfl rfl rfl (t_W_hasTooth x5 v2 h1) (fun r7 h6 => ?_)
    refine p_if_eq (pc := 27) 46 (dq D_B_set_0_ok 15 rfl) rfl ?_ ?_
    · exact T.lsub [0] rfl (tb_B_set_46 v0 h6)
    · refine q_aload_n (pc := 30) (dq D_B_set_0_ok 16 rfl) rfl 0 rfl ?_
      refine q_getR (pc := 31) (dq D_B_set_0_ok 17 rfl) fa_B_23 rfl (fun x8 => ?_)
      refine q_getR (pc := 34) (dq D_B_set_0_ok 18 rfl) fa_B_122 rfl (fun x9 => ?_)
      refine q_iload_n (pc := 37) (dq D_B_set_0_ok 19 rfl) rfl 1 rfl ?_
      refine r_aald (pc := 38) 4 (dq D_B_set_0_ok 20 rfl) rfl rfl (fun _ => rfl) (fun x10 => ?_)
      refine q_iload_n (pc := 39) (dq D_B_set_0_ok 21 rfl) rfl 2 rfl ?_
      refine r_invI (Mc := M_W_lacks) (pc := 40) (ci := 3) (rest := []) 0 1 [.int v2] (dq D_B_set_0_ok 22 rfl) rfl rfl lc_W_lacks lv_W_lacks_ ml_B_146 rfl rfl rfl rfl (t_W_lacks x10 v2 h6) (fun r12 h11 => ?_)
      refine p_if_eq (pc := 43) 52 (dq D_B_set_0_ok 23 rfl) rfl ?_ ?_
      · refine q_aload_n (pc := 52) (dq D_B_set_0_ok 28 rfl) rfl 0 rfl ?_
        refine q_getR (pc := 53) (dq D_B_set_0_ok 29 rfl) fa_B_30 rfl (fun x13 => ?_)
        refine q_ic3 (pc := 56) (dq D_B_set_0_ok 30 rfl) ?_
        refine q_iload_n (pc := 57) (dq D_B_set_0_ok 31 rfl) rfl 1 rfl ?_
        refine q_iadd (pc := 58) (dq D_B_set_0_ok 32 rfl) ?_
        refine r_iald (pc := 59) (dq D_B_set_0_ok 33 rfl) (fun x14 => ?_)
        refine q_iload_n (pc := 60) (dq D_B_set_0_ok 34 rfl) rfl 2 rfl ?_
        refine q_ic_ne (pc := 61) 70 (dq D_B_set_0_ok 35 rfl) rfl ?_ ?_
        · refine q_aload_n (pc := 70) (dq D_B_set_0_ok 40 rfl) rfl 0 rfl ?_
          refine q_getR (pc := 71) (dq D_B_set_0_ok 41 rfl) fa_B_40 rfl (fun x15 => ?_)
          refine q_aload_n (pc := 74) (dq D_B_set_0_ok 42 rfl) rfl 0 rfl ?_
          refine q_getR (pc := 75) (dq D_B_set_0_ok 43 rfl) fa_B_30 rfl (fun x16 => ?_)
          refine r_invU (Mc := M_P_keep) (pc := 78) (ci := 4) (rest := []) 1 1 [.ref x16] (dq D_B_set_0_ok 44 rfl) rfl rfl lc_P_keep lv_P_keep_ ml_B_336 rfl rfl rfl rfl (t_P_keep x15 x16 h11) (fun _ h17 => ?_)
          refine q_aload_n (pc := 81) (dq D_B_set_0_ok 45 rfl) rfl 0 rfl ?_
          refine q_getR (pc := 82) (dq D_B_set_0_ok 46 rfl) fa_B_30 rfl (fun x19 => ?_)
          refine q_ic3 (pc := 85) (dq D_B_set_0_ok 47 rfl) ?_
          refine q_iload_n (pc := 86) (dq D_B_set_0_ok 48 rfl) rfl 1 rfl ?_
          refine q_iadd (pc := 87) (dq D_B_set_0_ok 49 rfl) ?_
          refine q_iload_n (pc := 88) (dq D_B_set_0_ok 50 rfl) rfl 2 rfl ?_
          refine r_iast (pc := 89) (dq D_B_set_0_ok 51 rfl) (fun h20 => ?_)
          refine q_aload_n (pc := 90) (dq D_B_set_0_ok 52 rfl) rfl 0 rfl ?_
          refine r_invI (Mc := M_B_allow) (pc := 91) (ci := 0) (rest := []) 0 0 [] (dq D_B_set_0_ok 53 rfl) rfl rfl lc_B_allow lv_B_allow_ ml_B_350 rfl rfl rfl rfl (t_B_allow v0 h20) (fun r22 h21 => ?_)
          exact r_retz (pc := 94) (dq D_B_set_0_ok 54 rfl) rfl
        · refine q_aload_n (pc := 64) (dq D_B_set_0_ok 36 rfl) rfl 0 rfl ?_
          refine q_ic5 (pc := 65) (dq D_B_set_0_ok 37 rfl) ?_
          refine r_invI (Mc := M_B_deny) (pc := 66) (ci := 0) (rest := []) 0 1 [.int 5] (dq D_B_set_0_ok 38 rfl) rfl rfl lc_B_deny lv_B_deny_ ml_B_347 rfl rfl rfl rfl (t_B_deny v0 (5 : Int32) h11) (fun r24 h23 => ?_)
          exact r_retz (pc := 69) (dq D_B_set_0_ok 39 rfl) rfl
      · exact T.lsub [0] rfl (tb_B_set_46 v0 h11)
  · refine q_aload_n (pc := 8) (dq D_B_set_0_ok 4 rfl) rfl 0 rfl ?_
    refine q_ic1 (pc := 9) (dq D_B_set_0_ok 5 rfl) ?_
    refine r_invI (Mc := M_B_deny) (pc := 10) (ci := 0) (rest := []) 0 1 [.int 1] (dq D_B_set_0_ok 6 rfl) rfl rfl lc_B_deny lv_B_deny_ ml_B_347 rfl rfl rfl rfl (t_B_deny v0 (1 : Int32) h1) (fun r26 h25 => ?_)
    exact r_retz (pc := 13) (dq D_B_set_0_ok 7 rfl) rfl
noncomputable def b_P_takeLatest_19 (v0 : Nat) (v1 : Nat) (s0 : Int32) (s1 : Nat) (h : Hp) : Option (Unit × Hp) := gd (hS h s1 = some (.inl 4)) (lt (uI h s1 3 s0) fun h1 => gd (hS h1 v0 = some (.inl 4)) (lt (hI h1 v0 2) fun x2 => gd (hS h1 v0 = some (.inl 4)) (lt (uI h1 v0 2 (x2 - 1)) fun h3 => gd (hS h3 v0 = some (.inl 4)) (bR (hR h3 v0 0) fun x4 => gd (hS h3 v0 = some (.inl 4)) (lt (hI h3 v0 3) fun x5 => gd (cpok h3 x4 v1 (x5 * 8) 0 8) (lt (uC h3 x4 v1 (x5 * 8).toNatClampNeg (0 : Int32).toNatClampNeg (8 : Int32).toNatClampNeg) fun h6 => some ((), h6)))))))
set_option maxHeartbeats 4000000 in
set_option maxRecDepth 20000 in
theorem tb_P_takeLatest_19 {G : GG} (v0 : Nat) (v1 : Nat) (s0 : Int32) (s1 : Nat) (h : Hp) : T G M_P_takeLatest 1 cU 19 [(0, .ref v0), (1, .ref v1)] [.int s0, .ref s1] h (b_P_takeLatest_19 v0 v1 s0 s1 h) := by
  unfold b_P_takeLatest_19
  refine r_putI (pc := 19) (dq D_P_takeLatest_0_ok 10 rfl) fp_P_25 rfl rfl (fun h1 => ?_)
  refine q_aload_n (pc := 22) (dq D_P_takeLatest_0_ok 11 rfl) rfl 0 rfl ?_
  refine q_dup (pc := 23) (dq D_P_takeLatest_0_ok 12 rfl) rfl ?_
  refine r_getI (pc := 24) (dq D_P_takeLatest_0_ok 13 rfl) fa_P_18 rfl (fun x2 => ?_)
  refine q_ic1 (pc := 27) (dq D_P_takeLatest_0_ok 14 rfl) ?_
  refine q_isub (pc := 28) (dq D_P_takeLatest_0_ok 15 rfl) ?_
  refine r_putI (pc := 29) (dq D_P_takeLatest_0_ok 16 rfl) fp_P_18 rfl rfl (fun h3 => ?_)
  refine q_aload_n (pc := 32) (dq D_P_takeLatest_0_ok 17 rfl) rfl 0 rfl ?_
  refine q_getR (pc := 33) (dq D_P_takeLatest_0_ok 18 rfl) fa_P_11 rfl (fun x4 => ?_)
  refine q_aload_n (pc := 36) (dq D_P_takeLatest_0_ok 19 rfl) rfl 0 rfl ?_
  refine r_getI (pc := 37) (dq D_P_takeLatest_0_ok 20 rfl) fa_P_25 rfl (fun x5 => ?_)
  refine q_bipush (pc := 40) (v := 8) (dq D_P_takeLatest_0_ok 21 rfl) (by decide) ?_
  refine q_imul (pc := 42) (dq D_P_takeLatest_0_ok 22 rfl) ?_
  refine q_aload_n (pc := 43) (dq D_P_takeLatest_0_ok 23 rfl) rfl 1 rfl ?_
  refine q_ic0 (pc := 44) (dq D_P_takeLatest_0_ok 24 rfl) ?_
  refine q_bipush (pc := 45) (v := 8) (dq D_P_takeLatest_0_ok 25 rfl) (by decide) ?_
  refine r_copy (pc := 47) (dq D_P_takeLatest_0_ok 26 rfl) lk_P_28 lac_n lac_s lac_i rfl rfl (fun h6 => ?_)
  exact r_retu (pc := 50) (dq D_P_takeLatest_0_ok 27 rfl) rfl
noncomputable def f_P_takeLatest (v0 : Nat) (v1 : Nat) (h : Hp) : Option (Unit × Hp) := gd (hS h v0 = some (.inl 4)) (lt (hI h v0 3) fun x1 => if x1 = 0 then (b_P_takeLatest_19 v0 v1 15 v0 h) else (gd (hS h v0 = some (.inl 4)) (lt (hI h v0 3) fun x2 => b_P_takeLatest_19 v0 v1 (x2 - 1) v0 h)))
set_option maxHeartbeats 4000000 in
set_option maxRecDepth 20000 in
theorem t_P_takeLatest {G : GG} (v0 : Nat) (v1 : Nat) (h : Hp) : Mt G M_P_takeLatest 1 [.ref v0, .ref v1] cU h (f_P_takeLatest v0 v1 h) := by
  refine Mt.ofF (by decide +kernel) rfl (Rt.v rfl rfl) ?_
  show T G M_P_takeLatest 1 cU 0 [(0, .ref v0), (1, .ref v1)] [] h _
  unfold f_P_takeLatest
  refine q_aload_n (pc := 0) (dq D_P_takeLatest_0_ok 0 rfl) rfl 0 rfl ?_
  refine q_aload_n (pc := 1) (dq D_P_takeLatest_0_ok 1 rfl) rfl 0 rfl ?_
  refine r_getI (pc := 2) (dq D_P_takeLatest_0_ok 2 rfl) fa_P_25 rfl (fun x1 => ?_)
  refine p_if_ne (pc := 5) 13 (dq D_P_takeLatest_0_ok 3 rfl) rfl ?_ ?_
  · refine q_aload_n (pc := 13) (dq D_P_takeLatest_0_ok 6 rfl) rfl 0 rfl ?_
    refine r_getI (pc := 14) (dq D_P_takeLatest_0_ok 7 rfl) fa_P_25 rfl (fun x2 => ?_)
    refine q_ic1 (pc := 17) (dq D_P_takeLatest_0_ok 8 rfl) ?_
    refine q_isub (pc := 18) (dq D_P_takeLatest_0_ok 9 rfl) ?_
    exact T.lsub [0, 1] rfl (tb_P_takeLatest_19 v0 v1 (x2 - 1) v0 h)
  · refine q_bipush (pc := 8) (v := 15) (dq D_P_takeLatest_0_ok 4 rfl) (by decide) ?_
    refine q_goto (pc := 10) 19 (dq D_P_takeLatest_0_ok 5 rfl) rfl ?_
    exact T.lsub [0, 1] rfl (tb_P_takeLatest_19 v0 v1 15 v0 h)
noncomputable def f_B_undo (v0 : Nat) (h : Hp) : Option (Int32 × Hp) := gd (hS h v0 = some (.inl 0)) (bR (hR h v0 8) fun x1 => gd (hS h x1 = some (.inl 4)) (lt (hI h x1 2) fun x2 => if x2 = 0 then (gd (hS h v0 = some (.inl 0)) (bd (f_B_deny v0 (6 : Int32) h) fun r10 h9 => gd (zb r10) (some (r10, h9)))) else (gd (hS h v0 = some (.inl 0)) (bR (hR h v0 8) fun x3 => gd (hS h v0 = some (.inl 0)) (bR (hR h v0 5) fun x4 => gd (hS h x3 = some (.inl 4)) (bd (f_P_takeLatest x3 x4 h) fun _ h5 => gd (hS h5 v0 = some (.inl 0)) (bd (f_B_allow v0 h5) fun r8 h7 => gd (zb r8) (some (r8, h7)))))))))
set_option maxHeartbeats 4000000 in
set_option maxRecDepth 20000 in
theorem t_B_undo {G : GG} (v0 : Nat) (h : Hp) : Mt G M_B_undo 2 [.ref v0] cI h (f_B_undo v0 h) := by
  refine Mt.ofF (by decide +kernel) rfl (Rt.z rfl rfl) ?_
  show T G M_B_undo 2 cI 0 [(0, .ref v0)] [] h _
  unfold f_B_undo
  refine q_aload_n (pc := 0) (dq D_B_undo_0_ok 0 rfl) rfl 0 rfl ?_
  refine q_getR (pc := 1) (dq D_B_undo_0_ok 1 rfl) fa_B_40 rfl (fun x1 => ?_)
  refine r_getI (pc := 4) (dq D_B_undo_0_ok 2 rfl) fa_B_353 rfl (fun x2 => ?_)
  refine p_if_ne (pc := 7) 17 (dq D_B_undo_0_ok 3 rfl) rfl ?_ ?_
  · refine q_aload_n (pc := 17) (dq D_B_undo_0_ok 8 rfl) rfl 0 rfl ?_
    refine q_getR (pc := 18) (dq D_B_undo_0_ok 9 rfl) fa_B_40 rfl (fun x3 => ?_)
    refine q_aload_n (pc := 21) (dq D_B_undo_0_ok 10 rfl) rfl 0 rfl ?_
    refine q_getR (pc := 22) (dq D_B_undo_0_ok 11 rfl) fa_B_30 rfl (fun x4 => ?_)
    refine r_invU (Mc := M_P_takeLatest) (pc := 25) (ci := 4) (rest := []) 1 1 [.ref x4] (dq D_B_undo_0_ok 12 rfl) rfl rfl lc_P_takeLatest lv_P_takeLatest_ ml_B_356 rfl rfl rfl rfl (t_P_takeLatest x3 x4 h) (fun _ h5 => ?_)
    refine q_aload_n (pc := 28) (dq D_B_undo_0_ok 13 rfl) rfl 0 rfl ?_
    refine r_invI (Mc := M_B_allow) (pc := 29) (ci := 0) (rest := []) 0 0 [] (dq D_B_undo_0_ok 14 rfl) rfl rfl lc_B_allow lv_B_allow_ ml_B_350 rfl rfl rfl rfl (t_B_allow v0 h5) (fun r8 h7 => ?_)
    exact r_retz (pc := 32) (dq D_B_undo_0_ok 15 rfl) rfl
  · refine q_aload_n (pc := 10) (dq D_B_undo_0_ok 4 rfl) rfl 0 rfl ?_
    refine q_bipush (pc := 11) (v := 6) (dq D_B_undo_0_ok 5 rfl) (by decide) ?_
    refine r_invI (Mc := M_B_deny) (pc := 13) (ci := 0) (rest := []) 0 1 [.int 6] (dq D_B_undo_0_ok 6 rfl) rfl rfl lc_B_deny lv_B_deny_ ml_B_347 rfl rfl rfl rfl (t_B_deny v0 (6 : Int32) h) (fun r10 h9 => ?_)
    exact r_retz (pc := 16) (dq D_B_undo_0_ok 7 rfl) rfl
noncomputable def f_P_addImage (v0 : Nat) (v1 : Nat) (h : Hp) : Option (Int32 × Hp) := gd (hS h v0 = some (.inl 4)) (bR (hR h v0 1) fun x1 => gd (hS h v0 = some (.inl 4)) (lt (hI h v0 4) fun x2 => gd (cpok h v1 x1 0 (x2 * 8) 8) (lt (uC h v1 x1 (0 : Int32).toNatClampNeg (x2 * 8).toNatClampNeg (8 : Int32).toNatClampNeg) fun h3 => gd (hS h3 v0 = some (.inl 4)) (lt (hI h3 v0 4) fun x4 => gd (hS h3 v0 = some (.inl 4)) (lt (uI h3 v0 4 (x4 + 1)) fun h5 => gd (hS h5 v0 = some (.inl 4)) (lt (hI h5 v0 4) fun x6 => some (x6 - 1, h5)))))))
set_option maxHeartbeats 4000000 in
set_option maxRecDepth 20000 in
theorem t_P_addImage {G : GG} (v0 : Nat) (v1 : Nat) (h : Hp) : Mt G M_P_addImage 1 [.ref v0, .ref v1] cI h (f_P_addImage v0 v1 h) := by
  refine Mt.ofF (by decide +kernel) rfl (Rt.i rfl rfl) ?_
  show T G M_P_addImage 1 cI 0 [(0, .ref v0), (1, .ref v1)] [] h _
  unfold f_P_addImage
  refine q_aload_n (pc := 0) (dq D_P_addImage_0_ok 0 rfl) rfl 1 rfl ?_
  refine q_ic0 (pc := 1) (dq D_P_addImage_0_ok 1 rfl) ?_
  refine q_aload_n (pc := 2) (dq D_P_addImage_0_ok 2 rfl) rfl 0 rfl ?_
  refine q_getR (pc := 3) (dq D_P_addImage_0_ok 3 rfl) fa_P_15 rfl (fun x1 => ?_)
  refine q_aload_n (pc := 6) (dq D_P_addImage_0_ok 4 rfl) rfl 0 rfl ?_
  refine r_getI (pc := 7) (dq D_P_addImage_0_ok 5 rfl) fa_P_22 rfl (fun x2 => ?_)
  refine q_bipush (pc := 10) (v := 8) (dq D_P_addImage_0_ok 6 rfl) (by decide) ?_
  refine q_imul (pc := 12) (dq D_P_addImage_0_ok 7 rfl) ?_
  refine q_bipush (pc := 13) (v := 8) (dq D_P_addImage_0_ok 8 rfl) (by decide) ?_
  refine r_copy (pc := 15) (dq D_P_addImage_0_ok 9 rfl) lk_P_28 lac_n lac_s lac_i rfl rfl (fun h3 => ?_)
  refine q_aload_n (pc := 18) (dq D_P_addImage_0_ok 10 rfl) rfl 0 rfl ?_
  refine q_dup (pc := 19) (dq D_P_addImage_0_ok 11 rfl) rfl ?_
  refine r_getI (pc := 20) (dq D_P_addImage_0_ok 12 rfl) fa_P_22 rfl (fun x4 => ?_)
  refine q_ic1 (pc := 23) (dq D_P_addImage_0_ok 13 rfl) ?_
  refine q_iadd (pc := 24) (dq D_P_addImage_0_ok 14 rfl) ?_
  refine r_putI (pc := 25) (dq D_P_addImage_0_ok 15 rfl) fp_P_22 rfl rfl (fun h5 => ?_)
  refine q_aload_n (pc := 28) (dq D_P_addImage_0_ok 16 rfl) rfl 0 rfl ?_
  refine r_getI (pc := 29) (dq D_P_addImage_0_ok 17 rfl) fa_P_22 rfl (fun x6 => ?_)
  refine q_ic1 (pc := 32) (dq D_P_addImage_0_ok 18 rfl) ?_
  refine q_isub (pc := 33) (dq D_P_addImage_0_ok 19 rfl) ?_
  exact r_reti (pc := 34) (dq D_P_addImage_0_ok 20 rfl) rfl
noncomputable def f_B_image (v0 : Nat) (h : Hp) : Option (Int32 × Hp) := gd (hS h v0 = some (.inl 0)) (bd (f_B_hasOrrery v0 h) fun r2 h1 => if r2 = 0 then (gd (hS h1 v0 = some (.inl 0)) (bd (f_B_refuse v0 (1 : Int32) h1) fun r14 h13 => some (r14, h13))) else (gd (hS h1 v0 = some (.inl 0)) (bR (hR h1 v0 8) fun x3 => gd (hS h1 x3 = some (.inl 4)) (lt (hI h1 x3 4) fun x4 => if x4 < 3 then (gd (hS h1 v0 = some (.inl 0)) (bR (hR h1 v0 8) fun x5 => gd (hS h1 v0 = some (.inl 0)) (bR (hR h1 v0 5) fun x6 => gd (hS h1 x5 = some (.inl 4)) (bd (f_P_addImage x5 x6 h1) fun r8 h7 => gd (hS h7 v0 = some (.inl 0)) (bd (f_B_grant v0 r8 h7) fun r10 h9 => some (r10, h9)))))) else (gd (hS h1 v0 = some (.inl 0)) (bd (f_B_refuse v0 (3 : Int32) h1) fun r12 h11 => some (r12, h11)))))))
set_option maxHeartbeats 4000000 in
set_option maxRecDepth 20000 in
theorem t_B_image {G : GG} (v0 : Nat) (h : Hp) : Mt G M_B_image 2 [.ref v0] cI h (f_B_image v0 h) := by
  refine Mt.ofF (by decide +kernel) rfl (Rt.i rfl rfl) ?_
  show T G M_B_image 2 cI 0 [(0, .ref v0)] [] h _
  unfold f_B_image
  refine q_aload_n (pc := 0) (dq D_B_image_0_ok 0 rfl) rfl 0 rfl ?_
  refine r_invI (Mc := M_B_hasOrrery) (pc := 1) (ci := 0) (rest := []) 0 0 [] (dq D_B_image_0_ok 1 rfl) rfl rfl lc_B_hasOrrery lv_B_hasOrrery_ ml_B_149 rfl rfl rfl rfl (t_B_hasOrrery v0 h) (fun r2 h1 => ?_)
  refine p_if_ne (pc := 4) 13 (dq D_B_image_0_ok 2 rfl) rfl ?_ ?_
  · refine q_aload_n (pc := 13) (dq D_B_image_0_ok 7 rfl) rfl 0 rfl ?_
    refine q_getR (pc := 14) (dq D_B_image_0_ok 8 rfl) fa_B_40 rfl (fun x3 => ?_)
    refine r_getI (pc := 17) (dq D_B_image_0_ok 9 rfl) fa_B_359 rfl (fun x4 => ?_)
    refine q_ic3 (pc := 20) (dq D_B_image_0_ok 10 rfl) ?_
    refine q_ic_lt (pc := 21) 30 (dq D_B_image_0_ok 11 rfl) rfl ?_ ?_
    · refine q_aload_n (pc := 30) (dq D_B_image_0_ok 16 rfl) rfl 0 rfl ?_
      refine q_aload_n (pc := 31) (dq D_B_image_0_ok 17 rfl) rfl 0 rfl ?_
      refine q_getR (pc := 32) (dq D_B_image_0_ok 18 rfl) fa_B_40 rfl (fun x5 => ?_)
      refine q_aload_n (pc := 35) (dq D_B_image_0_ok 19 rfl) rfl 0 rfl ?_
      refine q_getR (pc := 36) (dq D_B_image_0_ok 20 rfl) fa_B_30 rfl (fun x6 => ?_)
      refine r_invI (Mc := M_P_addImage) (pc := 39) (ci := 4) (rest := [.ref v0]) 1 1 [.ref x6] (dq D_B_image_0_ok 21 rfl) rfl rfl lc_P_addImage lv_P_addImage_ ml_B_362 rfl rfl rfl rfl (t_P_addImage x5 x6 h1) (fun r8 h7 => ?_)
      refine r_invI (Mc := M_B_grant) (pc := 42) (ci := 0) (rest := []) 0 1 [.int r8] (dq D_B_image_0_ok 22 rfl) rfl rfl lc_B_grant lv_B_grant_ ml_B_109 rfl rfl rfl rfl (t_B_grant v0 r8 h7) (fun r10 h9 => ?_)
      exact r_reti (pc := 45) (dq D_B_image_0_ok 23 rfl) rfl
    · refine q_aload_n (pc := 24) (dq D_B_image_0_ok 12 rfl) rfl 0 rfl ?_
      refine q_ic3 (pc := 25) (dq D_B_image_0_ok 13 rfl) ?_
      refine r_invI (Mc := M_B_refuse) (pc := 26) (ci := 0) (rest := []) 0 1 [.int 3] (dq D_B_image_0_ok 14 rfl) rfl rfl lc_B_refuse lv_B_refuse_ ml_B_87 rfl rfl rfl rfl (t_B_refuse v0 (3 : Int32) h1) (fun r12 h11 => ?_)
      exact r_reti (pc := 29) (dq D_B_image_0_ok 15 rfl) rfl
  · refine q_aload_n (pc := 7) (dq D_B_image_0_ok 3 rfl) rfl 0 rfl ?_
    refine q_ic1 (pc := 8) (dq D_B_image_0_ok 4 rfl) ?_
    refine r_invI (Mc := M_B_refuse) (pc := 9) (ci := 0) (rest := []) 0 1 [.int 1] (dq D_B_image_0_ok 5 rfl) rfl rfl lc_B_refuse lv_B_refuse_ ml_B_87 rfl rfl rfl rfl (t_B_refuse v0 (1 : Int32) h1) (fun r14 h13 => ?_)
    exact r_reti (pc := 12) (dq D_B_image_0_ok 6 rfl) rfl
noncomputable def f_P_takeImage (v0 : Nat) (v1 : Int32) (v2 : Nat) (h : Hp) : Option (Unit × Hp) := gd (hS h v0 = some (.inl 4)) (bR (hR h v0 1) fun x1 => gd (cpok h x1 v2 (v1 * 8) 0 8) (lt (uC h x1 v2 (v1 * 8).toNatClampNeg (0 : Int32).toNatClampNeg (8 : Int32).toNatClampNeg) fun h2 => gd (hS h2 v0 = some (.inl 4)) (lt (uI h2 v0 2 0) fun h3 => some ((), h3))))
set_option maxHeartbeats 4000000 in
set_option maxRecDepth 20000 in
theorem t_P_takeImage {G : GG} (v0 : Nat) (v1 : Int32) (v2 : Nat) (h : Hp) : Mt G M_P_takeImage 1 [.ref v0, .int v1, .ref v2] cU h (f_P_takeImage v0 v1 v2 h) := by
  refine Mt.ofF (by decide +kernel) rfl (Rt.v rfl rfl) ?_
  show T G M_P_takeImage 1 cU 0 [(0, .ref v0), (1, .int v1), (2, .ref v2)] [] h _
  unfold f_P_takeImage
  refine q_aload_n (pc := 0) (dq D_P_takeImage_0_ok 0 rfl) rfl 0 rfl ?_
  refine q_getR (pc := 1) (dq D_P_takeImage_0_ok 1 rfl) fa_P_15 rfl (fun x1 => ?_)
  refine q_iload_n (pc := 4) (dq D_P_takeImage_0_ok 2 rfl) rfl 1 rfl ?_
  refine q_bipush (pc := 5) (v := 8) (dq D_P_takeImage_0_ok 3 rfl) (by decide) ?_
  refine q_imul (pc := 7) (dq D_P_takeImage_0_ok 4 rfl) ?_
  refine q_aload_n (pc := 8) (dq D_P_takeImage_0_ok 5 rfl) rfl 2 rfl ?_
  refine q_ic0 (pc := 9) (dq D_P_takeImage_0_ok 6 rfl) ?_
  refine q_bipush (pc := 10) (v := 8) (dq D_P_takeImage_0_ok 7 rfl) (by decide) ?_
  refine r_copy (pc := 12) (dq D_P_takeImage_0_ok 8 rfl) lk_P_28 lac_n lac_s lac_i rfl rfl (fun h2 => ?_)
  refine q_aload_n (pc := 15) (dq D_P_takeImage_0_ok 9 rfl) rfl 0 rfl ?_
  refine q_ic0 (pc := 16) (dq D_P_takeImage_0_ok 10 rfl) ?_
  refine r_putI (pc := 17) (dq D_P_takeImage_0_ok 11 rfl) fp_P_18 rfl rfl (fun h3 => ?_)
  exact r_retu (pc := 20) (dq D_P_takeImage_0_ok 12 rfl) rfl
noncomputable def b_B_back_15 (v0 : Nat) (h : Hp) : Option (Int32 × Hp) := gd (hS h v0 = some (.inl 0)) (bd (f_B_deny v0 (1 : Int32) h) fun r2 h1 => gd (zb r2) (some (r2, h1)))
set_option maxHeartbeats 4000000 in
set_option maxRecDepth 20000 in
theorem tb_B_back_15 {G : GG} (v0 : Nat) (h : Hp) : T G M_B_back 2 cI 15 [(0, .ref v0)] [] h (b_B_back_15 v0 h) := by
  unfold b_B_back_15
  refine q_aload_n (pc := 15) (dq D_B_back_0_ok 7 rfl) rfl 0 rfl ?_
  refine q_ic1 (pc := 16) (dq D_B_back_0_ok 8 rfl) ?_
  refine r_invI (Mc := M_B_deny) (pc := 17) (ci := 0) (rest := []) 0 1 [.int 1] (dq D_B_back_0_ok 9 rfl) rfl rfl lc_B_deny lv_B_deny_ ml_B_347 rfl rfl rfl rfl (t_B_deny v0 (1 : Int32) h) (fun r2 h1 => ?_)
  exact r_retz (pc := 20) (dq D_B_back_0_ok 10 rfl) rfl
noncomputable def f_B_back (v0 : Nat) (v1 : Int32) (h : Hp) : Option (Int32 × Hp) := if v1 < 0 then (b_B_back_15 v0 h) else (gd (hS h v0 = some (.inl 0)) (bR (hR h v0 8) fun x1 => gd (hS h x1 = some (.inl 4)) (lt (hI h x1 4) fun x2 => if v1 < x2 then (gd (hS h v0 = some (.inl 0)) (bR (hR h v0 8) fun x3 => gd (hS h v0 = some (.inl 0)) (bR (hR h v0 5) fun x4 => gd (hS h x3 = some (.inl 4)) (bd (f_P_takeImage x3 v1 x4 h) fun _ h5 => gd (hS h5 v0 = some (.inl 0)) (bd (f_B_allow v0 h5) fun r8 h7 => gd (zb r8) (some (r8, h7))))))) else (b_B_back_15 v0 h))))
set_option maxHeartbeats 4000000 in
set_option maxRecDepth 20000 in
theorem t_B_back {G : GG} (v0 : Nat) (v1 : Int32) (h : Hp) : Mt G M_B_back 2 [.ref v0, .int v1] cI h (f_B_back v0 v1 h) := by
  refine Mt.ofF (by decide +kernel) rfl (Rt.z rfl rfl) ?_
  show T G M_B_back 2 cI 0 [(0, .ref v0), (1, .int v1)] [] h _
  unfold f_B_back
  refine q_iload_n (pc := 0) (dq D_B_back_0_ok 0 rfl) rfl 1 rfl ?_
  refine p_if_lt (pc := 1) 15 (dq D_B_back_0_ok 1 rfl) rfl ?_ ?_
  · exact T.lsub [0] rfl (tb_B_back_15 v0 h)
  · refine q_iload_n (pc := 4) (dq D_B_back_0_ok 2 rfl) rfl 1 rfl ?_
    refine q_aload_n (pc := 5) (dq D_B_back_0_ok 3 rfl) rfl 0 rfl ?_
    refine q_getR (pc := 6) (dq D_B_back_0_ok 4 rfl) fa_B_40 rfl (fun x1 => ?_)
    refine r_getI (pc := 9) (dq D_B_back_0_ok 5 rfl) fa_B_359 rfl (fun x2 => ?_)
    refine q_ic_lt (pc := 12) 21 (dq D_B_back_0_ok 6 rfl) rfl ?_ ?_
    · refine q_aload_n (pc := 21) (dq D_B_back_0_ok 11 rfl) rfl 0 rfl ?_
      refine q_getR (pc := 22) (dq D_B_back_0_ok 12 rfl) fa_B_40 rfl (fun x3 => ?_)
      refine q_iload_n (pc := 25) (dq D_B_back_0_ok 13 rfl) rfl 1 rfl ?_
      refine q_aload_n (pc := 26) (dq D_B_back_0_ok 14 rfl) rfl 0 rfl ?_
      refine q_getR (pc := 27) (dq D_B_back_0_ok 15 rfl) fa_B_30 rfl (fun x4 => ?_)
      refine r_invU (Mc := M_P_takeImage) (pc := 30) (ci := 4) (rest := []) 1 2 [.int v1, .ref x4] (dq D_B_back_0_ok 16 rfl) rfl rfl lc_P_takeImage lv_P_takeImage_ ml_B_365 rfl rfl rfl rfl (t_P_takeImage x3 v1 x4 h) (fun _ h5 => ?_)
      refine q_aload_n (pc := 33) (dq D_B_back_0_ok 17 rfl) rfl 0 rfl ?_
      refine r_invI (Mc := M_B_allow) (pc := 34) (ci := 0) (rest := []) 0 0 [] (dq D_B_back_0_ok 18 rfl) rfl rfl lc_B_allow lv_B_allow_ ml_B_350 rfl rfl rfl rfl (t_B_allow v0 h5) (fun r8 h7 => ?_)
      exact r_retz (pc := 37) (dq D_B_back_0_ok 19 rfl) rfl
    · exact T.lsub [0] rfl (tb_B_back_15 v0 h)
noncomputable def b_B_led_39 (k4 : (Nat × Int32 × Int32) → Hp → Option (Int32 × Hp)) (v0 : Nat) (v2 : Int32) (v3 : Int32) (h : Hp) : Option (Int32 × Hp) := k4 (v0, v2, v3 + 1) h
set_option maxHeartbeats 4000000 in
set_option maxRecDepth 20000 in
theorem tb_B_led_39 {G : GG} {k4 : (Nat × Int32 × Int32) → Hp → Option (Int32 × Hp)} (hk4 : ∀ s h, T G M_B_led 2 cI 4 [(0, .ref s.1), (2, .int s.2.1), (3, .int s.2.2)] [] h (k4 s h)) (v0 : Nat) (v2 : Int32) (v3 : Int32) (h : Hp) : T G M_B_led 2 cI 39 [(0, .ref v0), (2, .int v2), (3, .int v3)] [] h (b_B_led_39 k4 v0 v2 v3 h) := by
  unfold b_B_led_39
  refine q_iinc (pc := 39) (v := (1)) (ls' := [(3, .int (v3 + 1)), (0, .ref v0), (2, .int v2)]) (dq D_B_led_0_ok 21 rfl) 2 rfl (by decide) rfl rfl ?_
  refine q_goto (pc := 42) 4 (dq D_B_led_0_ok 22 rfl) rfl ?_
  exact T.lsub [1, 2, 0] rfl (hk4 (v0, v2, v3 + 1) h)
noncomputable def b_B_led_4 (k4 : (Nat × Int32 × Int32) → Hp → Option (Int32 × Hp)) (v0 : Nat) (v2 : Int32) (v3 : Int32) (h : Hp) : Option (Int32 × Hp) := gd (hS h v0 = some (.inl 0)) (bR (hR h v0 3) fun x1 => gd (hS h x1 = some (.inl 2)) (lt (hI h x1 4) fun x2 => if x2 ≤ v3 then (none) else (gd (hS h v0 = some (.inl 0)) (bR (hR h v0 3) fun x3 => gd (hS h v0 = some (.inl 0)) (bR (hR h v0 5) fun x4 => gd (hS h x3 = some (.inl 2)) (bd (f_O_isOn x3 v3 x4 h) fun r6 h5 => if r6 = 0 then (b_B_led_39 k4 v0 v2 v3 h5) else (if v2 = 0 then (some (v3, h5)) else (b_B_led_39 k4 v0 (v2 + (-1)) v3 h5))))))))
set_option maxHeartbeats 4000000 in
set_option maxRecDepth 20000 in
theorem tb_B_led_4 {G : GG} {k4 : (Nat × Int32 × Int32) → Hp → Option (Int32 × Hp)} (hk4 : ∀ s h, T G M_B_led 2 cI 4 [(0, .ref s.1), (2, .int s.2.1), (3, .int s.2.2)] [] h (k4 s h)) (v0 : Nat) (v2 : Int32) (v3 : Int32) (h : Hp) : T G M_B_led 2 cI 4 [(0, .ref v0), (2, .int v2), (3, .int v3)] [] h (b_B_led_4 k4 v0 v2 v3 h) := by
  unfold b_B_led_4
  refine q_iload_n (pc := 4) (dq D_B_led_0_ok 4 rfl) rfl 2 rfl ?_
  refine q_aload_n (pc := 5) (dq D_B_led_0_ok 5 rfl) rfl 0 rfl ?_
  refine q_getR (pc := 6) (dq D_B_led_0_ok 6 rfl) fa_B_23 rfl (fun x1 => ?_)
  refine r_getI (pc := 9) (dq D_B_led_0_ok 7 rfl) fa_B_369 rfl (fun x2 => ?_)
  refine q_ic_ge (pc := 12) 45 (dq D_B_led_0_ok 8 rfl) rfl ?_ ?_
  · exact q_none
  · refine q_aload_n (pc := 15) (dq D_B_led_0_ok 9 rfl) rfl 0 rfl ?_
    refine q_getR (pc := 16) (dq D_B_led_0_ok 10 rfl) fa_B_23 rfl (fun x3 => ?_)
    refine q_iload_n (pc := 19) (dq D_B_led_0_ok 11 rfl) rfl 2 rfl ?_
    refine q_aload_n (pc := 20) (dq D_B_led_0_ok 12 rfl) rfl 0 rfl ?_
    refine q_getR (pc := 21) (dq D_B_led_0_ok 13 rfl) fa_B_30 rfl (fun x4 => ?_)
    refine r_invI (Mc := M_O_isOn) (pc := 24) (ci := 2) (rest := []) 1 2 [.int v3, .ref x4] (dq D_B_led_0_ok 14 rfl) rfl rfl lc_O_isOn lv_O_isOn_ ml_B_331 rfl rfl rfl rfl (t_O_isOn x3 v3 x4 h) (fun r6 h5 => ?_)
    refine p_if_eq (pc := 27) 39 (dq D_B_led_0_ok 15 rfl) rfl ?_ ?_
    · exact T.lsub [0, 1, 2] rfl (tb_B_led_39 hk4 v0 v2 v3 h5)
    · refine q_iload_n (pc := 30) (dq D_B_led_0_ok 16 rfl) rfl 1 rfl ?_
      refine p_if_ne (pc := 31) 36 (dq D_B_led_0_ok 17 rfl) rfl ?_ ?_
      · refine q_iinc (pc := 36) (v := (-1)) (ls' := [(2, .int (v2 + (-1))), (0, .ref v0), (3, .int v3)]) (dq D_B_led_0_ok 20 rfl) 1 rfl (by decide) rfl rfl ?_
        exact T.lsub [1, 0, 2] rfl (tb_B_led_39 hk4 v0 (v2 + (-1)) v3 h5)
      · refine q_iload_n (pc := 34) (dq D_B_led_0_ok 18 rfl) rfl 2 rfl ?_
        exact r_reti (pc := 35) (dq D_B_led_0_ok 19 rfl) rfl
noncomputable def l_B_led_4 : Nat → (Nat × Int32 × Int32) → Hp → Option (Int32 × Hp) := lp (fun k4 s h => b_B_led_4 k4 s.1 s.2.1 s.2.2 h)
set_option maxHeartbeats 4000000 in
set_option maxRecDepth 20000 in
theorem tl_B_led_4 {G : GG} (n : Nat) (s : Nat × Int32 × Int32) (h : Hp) : T G M_B_led 2 cI 4 [(0, .ref s.1), (2, .int s.2.1), (3, .int s.2.2)] [] h (l_B_led_4 n s h) :=
  T.loop (lsOf := fun s => [(0, .ref s.1), (2, .int s.2.1), (3, .int s.2.2)]) (fun k4 hk4 s h => tb_B_led_4 hk4 s.1 s.2.1 s.2.2 h) n s h
noncomputable def f_B_led (v0 : Nat) (v1 : Int32) (h : Hp) : Option (Int32 × Hp) := lt (0 : Int32) fun y1 => l_B_led_4 FU (v0, v1, y1) h
set_option maxHeartbeats 4000000 in
set_option maxRecDepth 20000 in
theorem t_B_led {G : GG} (v0 : Nat) (v1 : Int32) (h : Hp) : Mt G M_B_led 2 [.ref v0, .int v1] cI h (f_B_led v0 v1 h) := by
  refine Mt.ofF (by decide +kernel) rfl (Rt.i rfl rfl) ?_
  show T G M_B_led 2 cI 0 [(0, .ref v0), (1, .int v1)] [] h _
  unfold f_B_led
  refine q_iload_n (pc := 0) (dq D_B_led_0_ok 0 rfl) rfl 1 rfl ?_
  refine q_istore_n (pc := 1) (ls' := [(2, .int v1), (0, .ref v0), (1, .int v1)]) (dq D_B_led_0_ok 1 rfl) rfl rfl rfl ?_
  refine q_ic0 (pc := 2) (dq D_B_led_0_ok 2 rfl) ?_
  refine r_nmI (fun y1 => ?_)
  refine q_istore_n (pc := 3) (ls' := [(3, .int y1), (2, .int v1), (0, .ref v0), (1, .int v1)]) (dq D_B_led_0_ok 3 rfl) rfl rfl rfl ?_
  exact T.lsub [2, 1, 0] rfl (tl_B_led_4 FU (v0, v1, y1) h)
noncomputable def b_B_ledX_39 (k4 : (Nat × Int32 × Int32) → Hp → Option (Unit × Hp)) (v0 : Nat) (v2 : Int32) (v3 : Int32) (h : Hp) : Option (Unit × Hp) := k4 (v0, v2, v3 + 1) h
set_option maxHeartbeats 4000000 in
set_option maxRecDepth 20000 in
theorem tb_B_ledX_39 {G : GG} {k4 : (Nat × Int32 × Int32) → Hp → Option (Unit × Hp)} (hk4 : ∀ s h, T G M_B_ledX 2 cU 4 [(0, .ref s.1), (2, .int s.2.1), (3, .int s.2.2)] [] h (k4 s h)) (v0 : Nat) (v2 : Int32) (v3 : Int32) (h : Hp) : T G M_B_ledX 2 cU 39 [(0, .ref v0), (2, .int v2), (3, .int v3)] [] h (b_B_ledX_39 k4 v0 v2 v3 h) := by
  unfold b_B_ledX_39
  refine q_iinc (pc := 39) (v := (1)) (ls' := [(3, .int (v3 + 1)), (0, .ref v0), (2, .int v2)]) (dq D_B_ledX_0_ok 21 rfl) 2 rfl (by decide) rfl rfl ?_
  refine q_goto (pc := 42) 4 (dq D_B_ledX_0_ok 22 rfl) rfl ?_
  exact T.lsub [1, 2, 0] rfl (hk4 (v0, v2, v3 + 1) h)
noncomputable def b_B_ledX_4 (k4 : (Nat × Int32 × Int32) → Hp → Option (Unit × Hp)) (v0 : Nat) (v2 : Int32) (v3 : Int32) (h : Hp) : Option (Unit × Hp) := gd (hS h v0 = some (.inl 0)) (bR (hR h v0 3) fun x1 => gd (hS h x1 = some (.inl 2)) (lt (hI h x1 4) fun x2 => if x2 ≤ v3 then (some ((), h)) else (gd (hS h v0 = some (.inl 0)) (bR (hR h v0 3) fun x3 => gd (hS h v0 = some (.inl 0)) (bR (hR h v0 5) fun x4 => gd (hS h x3 = some (.inl 2)) (bd (f_O_isOn x3 v3 x4 h) fun r6 h5 => if r6 = 0 then (b_B_ledX_39 k4 v0 v2 v3 h5) else (if v2 = 0 then (none) else (b_B_ledX_39 k4 v0 (v2 + (-1)) v3 h5))))))))
set_option maxHeartbeats 4000000 in
set_option maxRecDepth 20000 in
theorem tb_B_ledX_4 {G : GG} {k4 : (Nat × Int32 × Int32) → Hp → Option (Unit × Hp)} (hk4 : ∀ s h, T G M_B_ledX 2 cU 4 [(0, .ref s.1), (2, .int s.2.1), (3, .int s.2.2)] [] h (k4 s h)) (v0 : Nat) (v2 : Int32) (v3 : Int32) (h : Hp) : T G M_B_ledX 2 cU 4 [(0, .ref v0), (2, .int v2), (3, .int v3)] [] h (b_B_ledX_4 k4 v0 v2 v3 h) := by
  unfold b_B_ledX_4
  refine q_iload_n (pc := 4) (dq D_B_ledX_0_ok 4 rfl) rfl 2 rfl ?_
  refine q_aload_n (pc := 5) (dq D_B_ledX_0_ok 5 rfl) rfl 0 rfl ?_
  refine q_getR (pc := 6) (dq D_B_ledX_0_ok 6 rfl) fa_B_23 rfl (fun x1 => ?_)
  refine r_getI (pc := 9) (dq D_B_ledX_0_ok 7 rfl) fa_B_369 rfl (fun x2 => ?_)
  refine q_ic_ge (pc := 12) 45 (dq D_B_ledX_0_ok 8 rfl) rfl ?_ ?_
  · exact q_ret (pc := 45) (x := ()) (dq D_B_ledX_0_ok 23 rfl) rfl (okU rfl)
  · refine q_aload_n (pc := 15) (dq D_B_ledX_0_ok 9 rfl) rfl 0 rfl ?_
    refine q_getR (pc := 16) (dq D_B_ledX_0_ok 10 rfl) fa_B_23 rfl (fun x3 => ?_)
    refine q_iload_n (pc := 19) (dq D_B_ledX_0_ok 11 rfl) rfl 2 rfl ?_
    refine q_aload_n (pc := 20) (dq D_B_ledX_0_ok 12 rfl) rfl 0 rfl ?_
    refine q_getR (pc := 21) (dq D_B_ledX_0_ok 13 rfl) fa_B_30 rfl (fun x4 => ?_)
    refine r_invI (Mc := M_O_isOn) (pc := 24) (ci := 2) (rest := []) 1 2 [.int v3, .ref x4] (dq D_B_ledX_0_ok 14 rfl) rfl rfl lc_O_isOn lv_O_isOn_ ml_B_331 rfl rfl rfl rfl (t_O_isOn x3 v3 x4 h) (fun r6 h5 => ?_)
    refine p_if_eq (pc := 27) 39 (dq D_B_ledX_0_ok 15 rfl) rfl ?_ ?_
    · exact T.lsub [0, 1, 2] rfl (tb_B_ledX_39 hk4 v0 v2 v3 h5)
    · refine q_iload_n (pc := 30) (dq D_B_ledX_0_ok 16 rfl) rfl 1 rfl ?_
      refine p_if_ne (pc := 31) 36 (dq D_B_ledX_0_ok 17 rfl) rfl ?_ ?_
      · refine q_iinc (pc := 36) (v := (-1)) (ls' := [(2, .int (v2 + (-1))), (0, .ref v0), (3, .int v3)]) (dq D_B_ledX_0_ok 20 rfl) 1 rfl (by decide) rfl rfl ?_
        exact T.lsub [1, 0, 2] rfl (tb_B_ledX_39 hk4 v0 (v2 + (-1)) v3 h5)
      · refine q_iload_n (pc := 34) (dq D_B_ledX_0_ok 18 rfl) rfl 2 rfl ?_
        exact q_none
noncomputable def l_B_ledX_4 : Nat → (Nat × Int32 × Int32) → Hp → Option (Unit × Hp) := lp (fun k4 s h => b_B_ledX_4 k4 s.1 s.2.1 s.2.2 h)
set_option maxHeartbeats 4000000 in
set_option maxRecDepth 20000 in
theorem tl_B_ledX_4 {G : GG} (n : Nat) (s : Nat × Int32 × Int32) (h : Hp) : T G M_B_ledX 2 cU 4 [(0, .ref s.1), (2, .int s.2.1), (3, .int s.2.2)] [] h (l_B_ledX_4 n s h) :=
  T.loop (lsOf := fun s => [(0, .ref s.1), (2, .int s.2.1), (3, .int s.2.2)]) (fun k4 hk4 s h => tb_B_ledX_4 hk4 s.1 s.2.1 s.2.2 h) n s h
noncomputable def f_B_ledX (v0 : Nat) (v1 : Int32) (h : Hp) : Option (Unit × Hp) := lt (0 : Int32) fun y1 => l_B_ledX_4 FU (v0, v1, y1) h
set_option maxHeartbeats 4000000 in
set_option maxRecDepth 20000 in
theorem tt_B_ledX {G : GG} (v0 : Nat) (v1 : Int32) (h : Hp) : T G M_B_ledX 2 cU 0 [(0, .ref v0), (1, .int v1)] [] h (f_B_ledX v0 v1 h) := by
  unfold f_B_ledX
  refine q_iload_n (pc := 0) (dq D_B_ledX_0_ok 0 rfl) rfl 1 rfl ?_
  refine q_istore_n (pc := 1) (ls' := [(2, .int v1), (0, .ref v0), (1, .int v1)]) (dq D_B_ledX_0_ok 1 rfl) rfl rfl rfl ?_
  refine q_ic0 (pc := 2) (dq D_B_ledX_0_ok 2 rfl) ?_
  refine r_nmI (fun y1 => ?_)
  refine q_istore_n (pc := 3) (ls' := [(3, .int y1), (2, .int v1), (0, .ref v0), (1, .int v1)]) (dq D_B_ledX_0_ok 3 rfl) rfl rfl rfl ?_
  exact T.lsub [2, 1, 0] rfl (tl_B_ledX_4 FU (v0, v1, y1) h)
noncomputable def b_O_goneTeeth_4 (k4 : (Nat × Int32 × Int32) → Hp → Option (Int32 × Hp)) (v0 : Nat) (v1 : Int32) (v2 : Int32) (h : Hp) : Option (Int32 × Hp) := gd (hS h v0 = some (.inl 2)) (lt (hI h v0 2) fun x1 => if x1 ≤ v2 then (some (v1, h)) else (gd (hS h v0 = some (.inl 2)) (bR (hR h v0 3) fun x2 => gd (ai h x2 4 v2) (bR (hR h x2 v2.toNatClampNeg) fun x3 => gd (hS h x3 = some (.inl 3)) (lt (hI h x3 4) fun x4 => lt (v1 + x4 : Int32) fun y5 => k4 (v0, y5, v2 + 1) h)))))
set_option maxHeartbeats 4000000 in
set_option maxRecDepth 20000 in
theorem tb_O_goneTeeth_4 {G : GG} {k4 : (Nat × Int32 × Int32) → Hp → Option (Int32 × Hp)} (hk4 : ∀ s h, T G M_O_goneTeeth 0 cI 4 [(0, .ref s.1), (1, .int s.2.1), (2, .int s.2.2)] [] h (k4 s h)) (v0 : Nat) (v1 : Int32) (v2 : Int32) (h : Hp) : T G M_O_goneTeeth 0 cI 4 [(0, .ref v0), (1, .int v1), (2, .int v2)] [] h (b_O_goneTeeth_4 k4 v0 v1 v2 h) := by
  unfold b_O_goneTeeth_4
  refine q_iload_n (pc := 4) (dq D_O_goneTeeth_0_ok 4 rfl) rfl 2 rfl ?_
  refine q_aload_n (pc := 5) (dq D_O_goneTeeth_0_ok 5 rfl) rfl 0 rfl ?_
  refine r_getI (pc := 6) (dq D_O_goneTeeth_0_ok 6 rfl) fa_O_54 rfl (fun x1 => ?_)
  refine q_ic_ge (pc := 9) 30 (dq D_O_goneTeeth_0_ok 7 rfl) rfl ?_ ?_
  · refine q_iload_n (pc := 30) (dq D_O_goneTeeth_0_ok 18 rfl) rfl 1 rfl ?_
    exact r_reti (pc := 31) (dq D_O_goneTeeth_0_ok 19 rfl) rfl
  · refine q_iload_n (pc := 12) (dq D_O_goneTeeth_0_ok 8 rfl) rfl 1 rfl ?_
    refine q_aload_n (pc := 13) (dq D_O_goneTeeth_0_ok 9 rfl) rfl 0 rfl ?_
    refine q_getR (pc := 14) (dq D_O_goneTeeth_0_ok 10 rfl) fa_O_11 rfl (fun x2 => ?_)
    refine q_iload_n (pc := 17) (dq D_O_goneTeeth_0_ok 11 rfl) rfl 2 rfl ?_
    refine r_aald (pc := 18) 4 (dq D_O_goneTeeth_0_ok 12 rfl) rfl rfl (fun _ => rfl) (fun x3 => ?_)
    refine r_getI (pc := 19) (dq D_O_goneTeeth_0_ok 13 rfl) fa_O_83 rfl (fun x4 => ?_)
    refine q_iadd (pc := 22) (dq D_O_goneTeeth_0_ok 14 rfl) ?_
    refine r_nmI (fun y5 => ?_)
    refine q_istore_n (pc := 23) (ls' := [(1, .int y5), (0, .ref v0), (2, .int v2)]) (dq D_O_goneTeeth_0_ok 15 rfl) rfl rfl rfl ?_
    refine q_iinc (pc := 24) (v := (1)) (ls' := [(2, .int (v2 + 1)), (1, .int y5), (0, .ref v0)]) (dq D_O_goneTeeth_0_ok 16 rfl) 2 rfl (by decide) rfl rfl ?_
    refine q_goto (pc := 27) 4 (dq D_O_goneTeeth_0_ok 17 rfl) rfl ?_
    exact T.lsub [2, 1, 0] rfl (hk4 (v0, y5, v2 + 1) h)
noncomputable def l_O_goneTeeth_4 : Nat → (Nat × Int32 × Int32) → Hp → Option (Int32 × Hp) := lp (fun k4 s h => b_O_goneTeeth_4 k4 s.1 s.2.1 s.2.2 h)
set_option maxHeartbeats 4000000 in
set_option maxRecDepth 20000 in
theorem tl_O_goneTeeth_4 {G : GG} (n : Nat) (s : Nat × Int32 × Int32) (h : Hp) : T G M_O_goneTeeth 0 cI 4 [(0, .ref s.1), (1, .int s.2.1), (2, .int s.2.2)] [] h (l_O_goneTeeth_4 n s h) :=
  T.loop (lsOf := fun s => [(0, .ref s.1), (1, .int s.2.1), (2, .int s.2.2)]) (fun k4 hk4 s h => tb_O_goneTeeth_4 hk4 s.1 s.2.1 s.2.2 h) n s h
noncomputable def f_O_goneTeeth (v0 : Nat) (h : Hp) : Option (Int32 × Hp) := lt (0 : Int32) fun y1 => lt (0 : Int32) fun y2 => l_O_goneTeeth_4 FU (v0, y1, y2) h
set_option maxHeartbeats 4000000 in
set_option maxRecDepth 20000 in
theorem t_O_goneTeeth {G : GG} (v0 : Nat) (h : Hp) : Mt G M_O_goneTeeth 0 [.ref v0] cI h (f_O_goneTeeth v0 h) := by
  refine Mt.ofF (by decide +kernel) rfl (Rt.i rfl rfl) ?_
  show T G M_O_goneTeeth 0 cI 0 [(0, .ref v0)] [] h _
  unfold f_O_goneTeeth
  refine q_ic0 (pc := 0) (dq D_O_goneTeeth_0_ok 0 rfl) ?_
  refine r_nmI (fun y1 => ?_)
  refine q_istore_n (pc := 1) (ls' := [(1, .int y1), (0, .ref v0)]) (dq D_O_goneTeeth_0_ok 1 rfl) rfl rfl rfl ?_
  refine q_ic0 (pc := 2) (dq D_O_goneTeeth_0_ok 2 rfl) ?_
  refine r_nmI (fun y2 => ?_)
  refine q_istore_n (pc := 3) (ls' := [(2, .int y2), (1, .int y1), (0, .ref v0)]) (dq D_O_goneTeeth_0_ok 3 rfl) rfl rfl rfl ?_
  exact T.lsub [2, 1, 0] rfl (tl_O_goneTeeth_4 FU (v0, y1, y2) h)
noncomputable def b_O_skyCount_23 (k4 : (Nat × Int32 × Int32) → Hp → Option (Int32 × Hp)) (v0 : Nat) (v1 : Int32) (v2 : Int32) (h : Hp) : Option (Int32 × Hp) := k4 (v0, v1, v2 + 1) h
set_option maxHeartbeats 4000000 in
set_option maxRecDepth 20000 in
theorem tb_O_skyCount_23 {G : GG} {k4 : (Nat × Int32 × Int32) → Hp → Option (Int32 × Hp)} (hk4 : ∀ s h, T G M_O_skyCount 1 cI 4 [(0, .ref s.1), (1, .int s.2.1), (2, .int s.2.2)] [] h (k4 s h)) (v0 : Nat) (v1 : Int32) (v2 : Int32) (h : Hp) : T G M_O_skyCount 1 cI 23 [(0, .ref v0), (1, .int v1), (2, .int v2)] [] h (b_O_skyCount_23 k4 v0 v1 v2 h) := by
  unfold b_O_skyCount_23
  refine q_iinc (pc := 23) (v := (1)) (ls' := [(2, .int (v2 + 1)), (0, .ref v0), (1, .int v1)]) (dq D_O_skyCount_0_ok 13 rfl) 2 rfl (by decide) rfl rfl ?_
  refine q_goto (pc := 26) 4 (dq D_O_skyCount_0_ok 14 rfl) rfl ?_
  exact T.lsub [1, 2, 0] rfl (hk4 (v0, v1, v2 + 1) h)
noncomputable def b_O_skyCount_4 (k4 : (Nat × Int32 × Int32) → Hp → Option (Int32 × Hp)) (v0 : Nat) (v1 : Int32) (v2 : Int32) (h : Hp) : Option (Int32 × Hp) := gd (hS h v0 = some (.inl 2)) (lt (hI h v0 4) fun x1 => if x1 ≤ v2 then (some (v1, h)) else (gd (hS h v0 = some (.inl 2)) (bd (f_O_hasSky v0 v2 h) fun r3 h2 => if r3 = 0 then (b_O_skyCount_23 k4 v0 v1 v2 h2) else (b_O_skyCount_23 k4 v0 (v1 + 1) v2 h2))))
set_option maxHeartbeats 4000000 in
set_option maxRecDepth 20000 in
theorem tb_O_skyCount_4 {G : GG} {k4 : (Nat × Int32 × Int32) → Hp → Option (Int32 × Hp)} (hk4 : ∀ s h, T G M_O_skyCount 1 cI 4 [(0, .ref s.1), (1, .int s.2.1), (2, .int s.2.2)] [] h (k4 s h)) (v0 : Nat) (v1 : Int32) (v2 : Int32) (h : Hp) : T G M_O_skyCount 1 cI 4 [(0, .ref v0), (1, .int v1), (2, .int v2)] [] h (b_O_skyCount_4 k4 v0 v1 v2 h) := by
  unfold b_O_skyCount_4
  refine q_iload_n (pc := 4) (dq D_O_skyCount_0_ok 4 rfl) rfl 2 rfl ?_
  refine q_aload_n (pc := 5) (dq D_O_skyCount_0_ok 5 rfl) rfl 0 rfl ?_
  refine r_getI (pc := 6) (dq D_O_skyCount_0_ok 6 rfl) fa_O_57 rfl (fun x1 => ?_)
  refine q_ic_ge (pc := 9) 29 (dq D_O_skyCount_0_ok 7 rfl) rfl ?_ ?_
  · refine q_iload_n (pc := 29) (dq D_O_skyCount_0_ok 15 rfl) rfl 1 rfl ?_
    exact r_reti (pc := 30) (dq D_O_skyCount_0_ok 16 rfl) rfl
  · refine q_aload_n (pc := 12) (dq D_O_skyCount_0_ok 8 rfl) rfl 0 rfl ?_
    refine q_iload_n (pc := 13) (dq D_O_skyCount_0_ok 9 rfl) rfl 2 rfl ?_
    refine r_invI (Mc := M_O_hasSky) (pc := 14) (ci := 2) (rest := []) 0 1 [.int v2] (dq D_O_skyCount_0_ok 10 rfl) rfl rfl lc_O_hasSky lv_O_hasSky_ ml_O_86 rfl rfl rfl rfl (t_O_hasSky v0 v2 h) (fun r3 h2 => ?_)
    refine p_if_eq (pc := 17) 23 (dq D_O_skyCount_0_ok 11 rfl) rfl ?_ ?_
    · exact T.lsub [0, 1, 2] rfl (tb_O_skyCount_23 hk4 v0 v1 v2 h2)
    · refine q_iinc (pc := 20) (v := (1)) (ls' := [(1, .int (v1 + 1)), (0, .ref v0), (2, .int v2)]) (dq D_O_skyCount_0_ok 12 rfl) 1 rfl (by decide) rfl rfl ?_
      exact T.lsub [1, 0, 2] rfl (tb_O_skyCount_23 hk4 v0 (v1 + 1) v2 h2)
noncomputable def l_O_skyCount_4 : Nat → (Nat × Int32 × Int32) → Hp → Option (Int32 × Hp) := lp (fun k4 s h => b_O_skyCount_4 k4 s.1 s.2.1 s.2.2 h)
set_option maxHeartbeats 4000000 in
set_option maxRecDepth 20000 in
theorem tl_O_skyCount_4 {G : GG} (n : Nat) (s : Nat × Int32 × Int32) (h : Hp) : T G M_O_skyCount 1 cI 4 [(0, .ref s.1), (1, .int s.2.1), (2, .int s.2.2)] [] h (l_O_skyCount_4 n s h) :=
  T.loop (lsOf := fun s => [(0, .ref s.1), (1, .int s.2.1), (2, .int s.2.2)]) (fun k4 hk4 s h => tb_O_skyCount_4 hk4 s.1 s.2.1 s.2.2 h) n s h
noncomputable def f_O_skyCount (v0 : Nat) (h : Hp) : Option (Int32 × Hp) := lt (0 : Int32) fun y1 => lt (0 : Int32) fun y2 => l_O_skyCount_4 FU (v0, y1, y2) h
set_option maxHeartbeats 4000000 in
set_option maxRecDepth 20000 in
theorem t_O_skyCount {G : GG} (v0 : Nat) (h : Hp) : Mt G M_O_skyCount 1 [.ref v0] cI h (f_O_skyCount v0 h) := by
  refine Mt.ofF (by decide +kernel) rfl (Rt.i rfl rfl) ?_
  show T G M_O_skyCount 1 cI 0 [(0, .ref v0)] [] h _
  unfold f_O_skyCount
  refine q_ic0 (pc := 0) (dq D_O_skyCount_0_ok 0 rfl) ?_
  refine r_nmI (fun y1 => ?_)
  refine q_istore_n (pc := 1) (ls' := [(1, .int y1), (0, .ref v0)]) (dq D_O_skyCount_0_ok 1 rfl) rfl rfl rfl ?_
  refine q_ic0 (pc := 2) (dq D_O_skyCount_0_ok 2 rfl) ?_
  refine r_nmI (fun y2 => ?_)
  refine q_istore_n (pc := 3) (ls' := [(2, .int y2), (1, .int y1), (0, .ref v0)]) (dq D_O_skyCount_0_ok 3 rfl) rfl rfl rfl ?_
  exact T.lsub [2, 1, 0] rfl (tl_O_skyCount_4 FU (v0, y1, y2) h)
noncomputable def f_B_size (v0 : Nat) (v1 : Int32) (h : Hp) : Option (Int32 × Hp) := if v1 = 0 then (gd (hS h v0 = some (.inl 0)) (bR (hR h v0 3) fun x1 => gd (hS h x1 = some (.inl 2)) (lt (hI h x1 1) fun x2 => some (x2, h)))) else (if v1 = 1 then (gd (hS h v0 = some (.inl 0)) (bR (hR h v0 3) fun x3 => gd (hS h x3 = some (.inl 2)) (lt (hI h x3 2) fun x4 => some (x4, h)))) else (if v1 = 2 then (gd (hS h v0 = some (.inl 0)) (bR (hR h v0 3) fun x5 => gd (hS h x5 = some (.inl 2)) (bd (f_O_goneTeeth x5 h) fun r7 h6 => some (r7, h6)))) else (if v1 = 3 then (gd (hS h v0 = some (.inl 0)) (bR (hR h v0 3) fun x8 => gd (hS h x8 = some (.inl 2)) (lt (hI h x8 4) fun x9 => some (x9, h)))) else (if v1 = 4 then (gd (hS h v0 = some (.inl 0)) (bR (hR h v0 3) fun x10 => gd (hS h x10 = some (.inl 2)) (lt (hI h x10 6) fun x11 => some (x11, h)))) else (if v1 = 5 then (gd (hS h v0 = some (.inl 0)) (bR (hR h v0 3) fun x12 => gd (hS h x12 = some (.inl 2)) (bd (f_O_skyCount x12 h) fun r14 h13 => some (r14, h13)))) else (if v1 = 6 then (gd (hS h v0 = some (.inl 0)) (bR (hR h v0 3) fun x15 => gd (hS h x15 = some (.inl 2)) (lt (hI h x15 12) fun x16 => if x16 = ((-1)) then (some (0, h)) else (some (1, h))))) else (if v1 = 7 then (gd (hS h v0 = some (.inl 0)) (bR (hR h v0 3) fun x17 => gd (hS h x17 = some (.inl 2)) (lt (hI h x17 13) fun x18 => some (x18, h)))) else (if v1 = 8 then (gd (hS h v0 = some (.inl 0)) (bR (hR h v0 8) fun x19 => gd (hS h x19 = some (.inl 4)) (lt (hI h x19 2) fun x20 => some (x20, h)))) else (if v1 = 9 then (gd (hS h v0 = some (.inl 0)) (bR (hR h v0 8) fun x21 => gd (hS h x21 = some (.inl 4)) (lt (hI h x21 4) fun x22 => some (x22, h)))) else (if v1 = 10 then (gd (hS h v0 = some (.inl 0)) (lt (hI h v0 1) fun x23 => some (x23, h))) else (some ((-1), h))))))))))))
set_option maxHeartbeats 4000000 in
set_option maxRecDepth 20000 in
theorem t_B_size {G : GG} (v0 : Nat) (v1 : Int32) (h : Hp) : Mt G M_B_size 2 [.ref v0, .int v1] cI h (f_B_size v0 v1 h) := by
  refine Mt.ofF (by decide +kernel) rfl (Rt.i rfl rfl) ?_
  show T G M_B_size 2 cI 0 [(0, .ref v0), (1, .int v1)] [] h _
  unfold f_B_size
  refine q_iload_n (pc := 0) (dq D_B_size_0_ok 0 rfl) rfl 1 rfl ?_
  refine T.ite (fun e => ?_) (fun n0 => ?_)
  · refine r_tin (pc := 1) (c := 0) 60 (dq D_B_size_0_ok 1 rfl) e (by decide) (by decide) rfl rfl ?_
    refine q_aload_n (pc := 60) (dq D_B_size_0_ok 2 rfl) rfl 0 rfl ?_
    refine q_getR (pc := 61) (dq D_B_size_0_ok 3 rfl) fa_B_23 rfl (fun x1 => ?_)
    refine r_getI (pc := 64) (dq D_B_size_0_ok 4 rfl) fa_B_324 rfl (fun x2 => ?_)
    exact r_reti (pc := 67) (dq D_B_size_0_ok 5 rfl) rfl
  refine T.ite (fun e => ?_) (fun n1 => ?_)
  · refine r_tin (pc := 1) (c := 1) 68 (dq D_B_size_0_ok 1 rfl) e (by decide) (by decide) rfl rfl ?_
    refine q_aload_n (pc := 68) (dq D_B_size_0_ok 6 rfl) rfl 0 rfl ?_
    refine q_getR (pc := 69) (dq D_B_size_0_ok 7 rfl) fa_B_23 rfl (fun x3 => ?_)
    refine r_getI (pc := 72) (dq D_B_size_0_ok 8 rfl) fa_B_106 rfl (fun x4 => ?_)
    exact r_reti (pc := 75) (dq D_B_size_0_ok 9 rfl) rfl
  refine T.ite (fun e => ?_) (fun n2 => ?_)
  · refine r_tin (pc := 1) (c := 2) 76 (dq D_B_size_0_ok 1 rfl) e (by decide) (by decide) rfl rfl ?_
    refine q_aload_n (pc := 76) (dq D_B_size_0_ok 10 rfl) rfl 0 rfl ?_
    refine q_getR (pc := 77) (dq D_B_size_0_ok 11 rfl) fa_B_23 rfl (fun x5 => ?_)
    refine r_invI (Mc := M_O_goneTeeth) (pc := 80) (ci := 2) (rest := []) 0 0 [] (dq D_B_size_0_ok 12 rfl) rfl rfl lc_O_goneTeeth lv_O_goneTeeth_ ml_B_379 rfl rfl rfl rfl (t_O_goneTeeth x5 h) (fun r7 h6 => ?_)
    exact r_reti (pc := 83) (dq D_B_size_0_ok 13 rfl) rfl
  refine T.ite (fun e => ?_) (fun n3 => ?_)
  · refine r_tin (pc := 1) (c := 3) 84 (dq D_B_size_0_ok 1 rfl) e (by decide) (by decide) rfl rfl ?_
    refine q_aload_n (pc := 84) (dq D_B_size_0_ok 14 rfl) rfl 0 rfl ?_
    refine q_getR (pc := 85) (dq D_B_size_0_ok 15 rfl) fa_B_23 rfl (fun x8 => ?_)
    refine r_getI (pc := 88) (dq D_B_size_0_ok 16 rfl) fa_B_369 rfl (fun x9 => ?_)
    exact r_reti (pc := 91) (dq D_B_size_0_ok 17 rfl) rfl
  refine T.ite (fun e => ?_) (fun n4 => ?_)
  · refine r_tin (pc := 1) (c := 4) 92 (dq D_B_size_0_ok 1 rfl) e (by decide) (by decide) rfl rfl ?_
    refine q_aload_n (pc := 92) (dq D_B_size_0_ok 18 rfl) rfl 0 rfl ?_
    refine q_getR (pc := 93) (dq D_B_size_0_ok 19 rfl) fa_B_23 rfl (fun x10 => ?_)
    refine r_getI (pc := 96) (dq D_B_size_0_ok 20 rfl) fa_B_157 rfl (fun x11 => ?_)
    exact r_reti (pc := 99) (dq D_B_size_0_ok 21 rfl) rfl
  refine T.ite (fun e => ?_) (fun n5 => ?_)
  · refine r_tin (pc := 1) (c := 5) 100 (dq D_B_size_0_ok 1 rfl) e (by decide) (by decide) rfl rfl ?_
    refine q_aload_n (pc := 100) (dq D_B_size_0_ok 22 rfl) rfl 0 rfl ?_
    refine q_getR (pc := 101) (dq D_B_size_0_ok 23 rfl) fa_B_23 rfl (fun x12 => ?_)
    refine r_invI (Mc := M_O_skyCount) (pc := 104) (ci := 2) (rest := []) 1 0 [] (dq D_B_size_0_ok 24 rfl) rfl rfl lc_O_skyCount lv_O_skyCount_ ml_B_382 rfl rfl rfl rfl (t_O_skyCount x12 h) (fun r14 h13 => ?_)
    exact r_reti (pc := 107) (dq D_B_size_0_ok 25 rfl) rfl
  refine T.ite (fun e => ?_) (fun n6 => ?_)
  · refine r_tin (pc := 1) (c := 6) 108 (dq D_B_size_0_ok 1 rfl) e (by decide) (by decide) rfl rfl ?_
    refine q_aload_n (pc := 108) (dq D_B_size_0_ok 26 rfl) rfl 0 rfl ?_
    refine q_getR (pc := 109) (dq D_B_size_0_ok 27 rfl) fa_B_23 rfl (fun x15 => ?_)
    refine r_getI (pc := 112) (dq D_B_size_0_ok 28 rfl) fa_B_268 rfl (fun x16 => ?_)
    refine q_icm1 (pc := 115) (dq D_B_size_0_ok 29 rfl) ?_
    refine q_ic_ne (pc := 116) 123 (dq D_B_size_0_ok 30 rfl) rfl ?_ ?_
    · refine q_ic1 (pc := 123) (dq D_B_size_0_ok 33 rfl) ?_
      exact r_reti (pc := 124) (dq D_B_size_0_ok 34 rfl) rfl
    · refine q_ic0 (pc := 119) (dq D_B_size_0_ok 31 rfl) ?_
      refine q_goto (pc := 120) 124 (dq D_B_size_0_ok 32 rfl) rfl ?_
      exact r_reti (pc := 124) (dq D_B_size_0_ok 34 rfl) rfl
  refine T.ite (fun e => ?_) (fun n7 => ?_)
  · refine r_tin (pc := 1) (c := 7) 125 (dq D_B_size_0_ok 1 rfl) e (by decide) (by decide) rfl rfl ?_
    refine q_aload_n (pc := 125) (dq D_B_size_0_ok 35 rfl) rfl 0 rfl ?_
    refine q_getR (pc := 126) (dq D_B_size_0_ok 36 rfl) fa_B_23 rfl (fun x17 => ?_)
    refine r_getI (pc := 129) (dq D_B_size_0_ok 37 rfl) fa_B_385 rfl (fun x18 => ?_)
    exact r_reti (pc := 132) (dq D_B_size_0_ok 38 rfl) rfl
  refine T.ite (fun e => ?_) (fun n8 => ?_)
  · refine r_tin (pc := 1) (c := 8) 133 (dq D_B_size_0_ok 1 rfl) e (by decide) (by decide) rfl rfl ?_
    refine q_aload_n (pc := 133) (dq D_B_size_0_ok 39 rfl) rfl 0 rfl ?_
    refine q_getR (pc := 134) (dq D_B_size_0_ok 40 rfl) fa_B_40 rfl (fun x19 => ?_)
    refine r_getI (pc := 137) (dq D_B_size_0_ok 41 rfl) fa_B_353 rfl (fun x20 => ?_)
    exact r_reti (pc := 140) (dq D_B_size_0_ok 42 rfl) rfl
  refine T.ite (fun e => ?_) (fun n9 => ?_)
  · refine r_tin (pc := 1) (c := 9) 141 (dq D_B_size_0_ok 1 rfl) e (by decide) (by decide) rfl rfl ?_
    refine q_aload_n (pc := 141) (dq D_B_size_0_ok 43 rfl) rfl 0 rfl ?_
    refine q_getR (pc := 142) (dq D_B_size_0_ok 44 rfl) fa_B_40 rfl (fun x21 => ?_)
    refine r_getI (pc := 145) (dq D_B_size_0_ok 45 rfl) fa_B_359 rfl (fun x22 => ?_)
    exact r_reti (pc := 148) (dq D_B_size_0_ok 46 rfl) rfl
  refine T.ite (fun e => ?_) (fun n10 => ?_)
  · refine r_tin (pc := 1) (c := 10) 149 (dq D_B_size_0_ok 1 rfl) e (by decide) (by decide) rfl rfl ?_
    refine q_aload_n (pc := 149) (dq D_B_size_0_ok 47 rfl) rfl 0 rfl ?_
    refine r_getI (pc := 150) (dq D_B_size_0_ok 48 rfl) fa_B_79 rfl (fun x23 => ?_)
    exact r_reti (pc := 153) (dq D_B_size_0_ok 49 rfl) rfl
  refine r_tout (pc := 1) 154 (dq D_B_size_0_ok 1 rfl) (by have e0 := int_ne (z := 0) n0 (by decide); have e1 := int_ne (z := 1) n1 (by decide); have e2 := int_ne (z := 2) n2 (by decide); have e3 := int_ne (z := 3) n3 (by decide); have e4 := int_ne (z := 4) n4 (by decide); have e5 := int_ne (z := 5) n5 (by decide); have e6 := int_ne (z := 6) n6 (by decide); have e7 := int_ne (z := 7) n7 (by decide); have e8 := int_ne (z := 8) n8 (by decide); have e9 := int_ne (z := 9) n9 (by decide); have e10 := int_ne (z := 10) n10 (by decide); omega) rfl ?_
  refine q_icm1 (pc := 154) (dq D_B_size_0_ok 50 rfl) ?_
  exact r_reti (pc := 155) (dq D_B_size_0_ok 51 rfl) rfl
