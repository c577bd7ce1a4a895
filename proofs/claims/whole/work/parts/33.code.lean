noncomputable def f_m_lineWorth (v0 : Nat) (h : Hp) : Option (Int32 × Hp) := gd (hS h v0 = some (.inl 11)) (lt (uI h v0 0 0) fun h1 => gd (hS h1 v0 = some (.inl 11)) (if hR h1 v0 3 = none then (gd (hS h1 v0 = some (.inl 11)) (bd (f_m_refused v0 (1 : Int32) h1) fun r8 h7 => some (r8, h7))) else (gd (hS h1 v0 = some (.inl 11)) (bd (f_m_lines v0 h1) fun r4 h3 => gd (hS h3 v0 = some (.inl 11)) (bd (f_m_good v0 r4 h3) fun r6 h5 => some (r6, h5))))))
set_option maxHeartbeats 4000000 in
set_option maxRecDepth 20000 in
theorem t_m_lineWorth {G : GG} (v0 : Nat) (h : Hp) : Mt G M_m_lineWorth 5 [.ref v0] cI h (f_m_lineWorth v0 h) := by
  refine Mt.ofF (by decide +kernel) rfl (Rt.i rfl rfl) ?_
  show T G M_m_lineWorth 5 cI 0 [(0, .ref v0)] [] h _
  unfold f_m_lineWorth
  refine q_aload_n (pc := 0) (dq D_m_lineWorth_0_ok 0 rfl) rfl 0 rfl ?_
  refine q_ic0 (pc := 1) (dq D_m_lineWorth_0_ok 1 rfl) ?_
  refine r_putI (pc := 2) (dq D_m_lineWorth_0_ok 2 rfl) fp_m_54 rfl rfl (fun h1 => ?_)
  refine q_aload_n (pc := 5) (dq D_m_lineWorth_0_ok 3 rfl) rfl 0 rfl ?_
  refine q_getnn (pc := 6) 20 (dq D_m_lineWorth_0_ok 4 rfl) (dq D_m_lineWorth_0_ok 5 rfl) rfl fa_m_348 rfl ?_ ?_
  · refine q_aload_n (pc := 20) (dq D_m_lineWorth_0_ok 10 rfl) rfl 0 rfl ?_
    refine q_aload_n (pc := 21) (dq D_m_lineWorth_0_ok 11 rfl) rfl 0 rfl ?_
    refine r_invI (Mc := M_m_lines) (pc := 22) (ci := 11) (rest := [.ref v0]) 4 0 [] (dq D_m_lineWorth_0_ok 12 rfl) rfl rfl lc_m_lines lv_m_lines_ ml_m_437 rfl rfl rfl rfl (t_m_lines v0 h1) (fun r4 h3 => ?_)
    refine r_invI (Mc := M_m_good) (pc := 25) (ci := 11) (rest := []) 0 1 [.int r4] (dq D_m_lineWorth_0_ok 13 rfl) rfl rfl lc_m_good lv_m_good_ ml_m_64 rfl rfl rfl rfl (t_m_good v0 r4 h3) (fun r6 h5 => ?_)
    exact r_reti (pc := 28) (dq D_m_lineWorth_0_ok 14 rfl) rfl
  · refine q_aload_n (pc := 12) (dq D_m_lineWorth_0_ok 6 rfl) rfl 0 rfl ?_
    refine q_ic1 (pc := 13) (dq D_m_lineWorth_0_ok 7 rfl) ?_
    refine r_invI (Mc := M_m_refused) (pc := 14) (ci := 11) (rest := []) 0 1 [.int 1] (dq D_m_lineWorth_0_ok 8 rfl) rfl rfl lc_m_refused lv_m_refused_ ml_m_60 rfl rfl rfl rfl (t_m_refused v0 (1 : Int32) h1) (fun r8 h7 => ?_)
    refine q_goto (pc := 17) 28 (dq D_m_lineWorth_0_ok 9 rfl) rfl ?_
    exact r_reti (pc := 28) (dq D_m_lineWorth_0_ok 14 rfl) rfl
noncomputable def b_m_lineAt_27 (v0 : Nat) (h : Hp) : Option (Int32 × Hp) := gd (hS h v0 = some (.inl 11)) (bd (f_m_refused v0 (1 : Int32) h) fun r2 h1 => some (r2, h1))
set_option maxHeartbeats 4000000 in
set_option maxRecDepth 20000 in
theorem tb_m_lineAt_27 {G : GG} (v0 : Nat) (h : Hp) : T G M_m_lineAt 5 cI 27 [(0, .ref v0)] [] h (b_m_lineAt_27 v0 h) := by
  unfold b_m_lineAt_27
  refine q_aload_n (pc := 27) (dq D_m_lineAt_0_ok 13 rfl) rfl 0 rfl ?_
  refine q_ic1 (pc := 28) (dq D_m_lineAt_0_ok 14 rfl) ?_
  refine r_invI (Mc := M_m_refused) (pc := 29) (ci := 11) (rest := []) 0 1 [.int 1] (dq D_m_lineAt_0_ok 15 rfl) rfl rfl lc_m_refused lv_m_refused_ ml_m_60 rfl rfl rfl rfl (t_m_refused v0 (1 : Int32) h) (fun r2 h1 => ?_)
  exact r_reti (pc := 32) (dq D_m_lineAt_0_ok 16 rfl) rfl
noncomputable def f_m_lineAt (v0 : Nat) (v1 : Int32) (h : Hp) : Option (Int32 × Hp) := gd (hS h v0 = some (.inl 11)) (lt (uI h v0 0 0) fun h1 => gd (hS h1 v0 = some (.inl 11)) (if hR h1 v0 3 = none then (b_m_lineAt_27 v0 h1) else (if v1 < 0 then (b_m_lineAt_27 v0 h1) else (gd (hS h1 v0 = some (.inl 11)) (bR (hR h1 v0 3) fun x3 => gd (hS h1 x3 = some (.inl 12)) (lt (hI h1 x3 5) fun x4 => if v1 < x4 then (gd (hS h1 v0 = some (.inl 11)) (bd (f_m_lines v0 h1) fun r6 h5 => gd (hS h5 v0 = some (.inl 11)) (bR (hR h5 v0 25) fun x7 => gd (ai h5 x7 0 v1) (lt (hI h5 x7 v1.toNatClampNeg) fun x8 => gd (hS h5 v0 = some (.inl 11)) (bd (f_m_good v0 x8 h5) fun r10 h9 => some (r10, h9)))))) else (b_m_lineAt_27 v0 h1)))))))
set_option maxHeartbeats 4000000 in
set_option maxRecDepth 20000 in
theorem t_m_lineAt {G : GG} (v0 : Nat) (v1 : Int32) (h : Hp) : Mt G M_m_lineAt 5 [.ref v0, .int v1] cI h (f_m_lineAt v0 v1 h) := by
  refine Mt.ofF (by decide +kernel) rfl (Rt.i rfl rfl) ?_
  show T G M_m_lineAt 5 cI 0 [(0, .ref v0), (1, .int v1)] [] h _
  unfold f_m_lineAt
  refine q_aload_n (pc := 0) (dq D_m_lineAt_0_ok 0 rfl) rfl 0 rfl ?_
  refine q_ic0 (pc := 1) (dq D_m_lineAt_0_ok 1 rfl) ?_
  refine r_putI (pc := 2) (dq D_m_lineAt_0_ok 2 rfl) fp_m_54 rfl rfl (fun h1 => ?_)
  refine q_aload_n (pc := 5) (dq D_m_lineAt_0_ok 3 rfl) rfl 0 rfl ?_
  refine q_getnu (pc := 6) 27 (dq D_m_lineAt_0_ok 4 rfl) (dq D_m_lineAt_0_ok 5 rfl) rfl fa_m_348 rfl ?_ ?_
  · exact T.lsub [0] rfl (tb_m_lineAt_27 v0 h1)
  · refine q_iload_n (pc := 12) (dq D_m_lineAt_0_ok 6 rfl) rfl 1 rfl ?_
    refine p_if_lt (pc := 13) 27 (dq D_m_lineAt_0_ok 7 rfl) rfl ?_ ?_
    · exact T.lsub [0] rfl (tb_m_lineAt_27 v0 h1)
    · refine q_iload_n (pc := 16) (dq D_m_lineAt_0_ok 8 rfl) rfl 1 rfl ?_
      refine q_aload_n (pc := 17) (dq D_m_lineAt_0_ok 9 rfl) rfl 0 rfl ?_
      refine q_getR (pc := 18) (dq D_m_lineAt_0_ok 10 rfl) fa_m_348 rfl (fun x3 => ?_)
      refine r_getI (pc := 21) (dq D_m_lineAt_0_ok 11 rfl) fa_m_300 rfl (fun x4 => ?_)
      refine q_ic_lt (pc := 24) 33 (dq D_m_lineAt_0_ok 12 rfl) rfl ?_ ?_
      · refine q_aload_n (pc := 33) (dq D_m_lineAt_0_ok 17 rfl) rfl 0 rfl ?_
        refine r_invI (Mc := M_m_lines) (pc := 34) (ci := 11) (rest := []) 4 0 [] (dq D_m_lineAt_0_ok 18 rfl) rfl rfl lc_m_lines lv_m_lines_ ml_m_437 rfl rfl rfl rfl (t_m_lines v0 h1) (fun r6 h5 => ?_)
        refine q_pop (pc := 37) (dq D_m_lineAt_0_ok 19 rfl) rfl ?_
        refine q_aload_n (pc := 38) (dq D_m_lineAt_0_ok 20 rfl) rfl 0 rfl ?_
        refine q_aload_n (pc := 39) (dq D_m_lineAt_0_ok 21 rfl) rfl 0 rfl ?_
        refine q_getR (pc := 40) (dq D_m_lineAt_0_ok 22 rfl) fa_m_36 rfl (fun x7 => ?_)
        refine q_iload_n (pc := 43) (dq D_m_lineAt_0_ok 23 rfl) rfl 1 rfl ?_
        refine r_iald (pc := 44) (dq D_m_lineAt_0_ok 24 rfl) (fun x8 => ?_)
        refine r_invI (Mc := M_m_good) (pc := 45) (ci := 11) (rest := []) 0 1 [.int x8] (dq D_m_lineAt_0_ok 25 rfl) rfl rfl lc_m_good lv_m_good_ ml_m_64 rfl rfl rfl rfl (t_m_good v0 x8 h5) (fun r10 h9 => ?_)
        exact r_reti (pc := 48) (dq D_m_lineAt_0_ok 26 rfl) rfl
      · exact T.lsub [0] rfl (tb_m_lineAt_27 v0 h1)
noncomputable def f_m_inTime (v0 : Nat) (h : Hp) : Option (Int32 × Hp) := gd (hS h v0 = some (.inl 11)) (lt (uI h v0 0 0) fun h1 => gd (hS h1 v0 = some (.inl 11)) (if hR h1 v0 3 = none then (gd (hS h1 v0 = some (.inl 11)) (bd (f_m_refused v0 (1 : Int32) h1) fun r9 h8 => some (r9, h8))) else (gd (hS h1 v0 = some (.inl 11)) (bd (f_m_lines v0 h1) fun r4 h3 => gd (hS h3 v0 = some (.inl 11)) (lt (hI h3 v0 27) fun x5 => gd (hS h3 v0 = some (.inl 11)) (bd (f_m_good v0 x5 h3) fun r7 h6 => some (r7, h6)))))))
set_option maxHeartbeats 4000000 in
set_option maxRecDepth 20000 in
theorem t_m_inTime {G : GG} (v0 : Nat) (h : Hp) : Mt G M_m_inTime 5 [.ref v0] cI h (f_m_inTime v0 h) := by
  refine Mt.ofF (by decide +kernel) rfl (Rt.i rfl rfl) ?_
  show T G M_m_inTime 5 cI 0 [(0, .ref v0)] [] h _
  unfold f_m_inTime
  refine q_aload_n (pc := 0) (dq D_m_inTime_0_ok 0 rfl) rfl 0 rfl ?_
  refine q_ic0 (pc := 1) (dq D_m_inTime_0_ok 1 rfl) ?_
  refine r_putI (pc := 2) (dq D_m_inTime_0_ok 2 rfl) fp_m_54 rfl rfl (fun h1 => ?_)
  refine q_aload_n (pc := 5) (dq D_m_inTime_0_ok 3 rfl) rfl 0 rfl ?_
  refine q_getnn (pc := 6) 18 (dq D_m_inTime_0_ok 4 rfl) (dq D_m_inTime_0_ok 5 rfl) rfl fa_m_348 rfl ?_ ?_
  · refine q_aload_n (pc := 18) (dq D_m_inTime_0_ok 10 rfl) rfl 0 rfl ?_
    refine r_invI (Mc := M_m_lines) (pc := 19) (ci := 11) (rest := []) 4 0 [] (dq D_m_inTime_0_ok 11 rfl) rfl rfl lc_m_lines lv_m_lines_ ml_m_437 rfl rfl rfl rfl (t_m_lines v0 h1) (fun r4 h3 => ?_)
    refine q_pop (pc := 22) (dq D_m_inTime_0_ok 12 rfl) rfl ?_
    refine q_aload_n (pc := 23) (dq D_m_inTime_0_ok 13 rfl) rfl 0 rfl ?_
    refine q_aload_n (pc := 24) (dq D_m_inTime_0_ok 14 rfl) rfl 0 rfl ?_
    refine r_getI (pc := 25) (dq D_m_inTime_0_ok 15 rfl) fa_m_431 rfl (fun x5 => ?_)
    refine r_invI (Mc := M_m_good) (pc := 28) (ci := 11) (rest := []) 0 1 [.int x5] (dq D_m_inTime_0_ok 16 rfl) rfl rfl lc_m_good lv_m_good_ ml_m_64 rfl rfl rfl rfl (t_m_good v0 x5 h3) (fun r7 h6 => ?_)
    exact r_reti (pc := 31) (dq D_m_inTime_0_ok 17 rfl) rfl
  · refine q_aload_n (pc := 12) (dq D_m_inTime_0_ok 6 rfl) rfl 0 rfl ?_
    refine q_ic1 (pc := 13) (dq D_m_inTime_0_ok 7 rfl) ?_
    refine r_invI (Mc := M_m_refused) (pc := 14) (ci := 11) (rest := []) 0 1 [.int 1] (dq D_m_inTime_0_ok 8 rfl) rfl rfl lc_m_refused lv_m_refused_ ml_m_60 rfl rfl rfl rfl (t_m_refused v0 (1 : Int32) h1) (fun r9 h8 => ?_)
    exact r_reti (pc := 17) (dq D_m_inTime_0_ok 9 rfl) rfl
noncomputable def f_m_refusesSky (v0 : Nat) (v1 : Int32) (h : Hp) : Option (Int32 × Hp) := gd (hS h v0 = some (.inl 11)) (bd (f_m_isFeast v0 v1 h) fun r2 h1 => if r2 = 0 then (some (1, h1)) else (gd (hS h1 v0 = some (.inl 11)) (bR (hR h1 v0 3) fun x3 => gd (hS h1 x3 = some (.inl 12)) (bR (hR h1 x3 17) fun x4 => gd (ai h1 x4 0 v1) (lt (hI h1 x4 v1.toNatClampNeg) fun x5 => if x5 = 0 then (some (6, h1)) else (some (0, h1)))))))
set_option maxHeartbeats 4000000 in
set_option maxRecDepth 20000 in
theorem t_m_refusesSky {G : GG} (v0 : Nat) (v1 : Int32) (h : Hp) : Mt G M_m_refusesSky 1 [.ref v0, .int v1] cI h (f_m_refusesSky v0 v1 h) := by
  refine Mt.ofF (by decide +kernel) rfl (Rt.i rfl rfl) ?_
  show T G M_m_refusesSky 1 cI 0 [(0, .ref v0), (1, .int v1)] [] h _
  unfold f_m_refusesSky
  refine q_aload_n (pc := 0) (dq D_m_refusesSky_0_ok 0 rfl) rfl 0 rfl ?_
  refine q_iload_n (pc := 1) (dq D_m_refusesSky_0_ok 1 rfl) rfl 1 rfl ?_
  refine r_invI (Mc := M_m_isFeast) (pc := 2) (ci := 11) (rest := []) 0 1 [.int v1] (dq D_m_refusesSky_0_ok 2 rfl) rfl rfl lc_m_isFeast lv_m_isFeast_ ml_m_360 rfl rfl rfl rfl (t_m_isFeast v0 v1 h) (fun r2 h1 => ?_)
  refine p_if_ne (pc := 5) 12 (dq D_m_refusesSky_0_ok 3 rfl) rfl ?_ ?_
  · refine q_aload_n (pc := 12) (dq D_m_refusesSky_0_ok 6 rfl) rfl 0 rfl ?_
    refine q_getR (pc := 13) (dq D_m_refusesSky_0_ok 7 rfl) fa_m_348 rfl (fun x3 => ?_)
    refine q_getR (pc := 16) (dq D_m_refusesSky_0_ok 8 rfl) fa_m_317 rfl (fun x4 => ?_)
    refine q_iload_n (pc := 19) (dq D_m_refusesSky_0_ok 9 rfl) rfl 1 rfl ?_
    refine r_iald (pc := 20) (dq D_m_refusesSky_0_ok 10 rfl) (fun x5 => ?_)
    refine p_if_ne (pc := 21) 29 (dq D_m_refusesSky_0_ok 11 rfl) rfl ?_ ?_
    · refine q_ic0 (pc := 29) (dq D_m_refusesSky_0_ok 14 rfl) ?_
      exact r_reti (pc := 30) (dq D_m_refusesSky_0_ok 15 rfl) rfl
    · refine q_bipush (pc := 24) (v := 6) (dq D_m_refusesSky_0_ok 12 rfl) (by decide) ?_
      refine q_goto (pc := 26) 30 (dq D_m_refusesSky_0_ok 13 rfl) rfl ?_
      exact r_reti (pc := 30) (dq D_m_refusesSky_0_ok 15 rfl) rfl
  · refine q_ic1 (pc := 8) (dq D_m_refusesSky_0_ok 4 rfl) ?_
    refine q_goto (pc := 9) 30 (dq D_m_refusesSky_0_ok 5 rfl) rfl ?_
    exact r_reti (pc := 30) (dq D_m_refusesSky_0_ok 15 rfl) rfl
noncomputable def f_m_off (v0 : Nat) (v1 : Int32) (v2 : Int32) (h : Hp) : Option (Int32 × Hp) := gd (hS h v0 = some (.inl 11)) (bR (hR h v0 3) fun x1 => gd (hS h x1 = some (.inl 12)) (bR (hR h x1 18) fun x2 => gd (ai h x2 0 v1) (lt (hI h x2 v1.toNatClampNeg) fun x3 => if x3 < v2 then (gd (hS h v0 = some (.inl 11)) (bR (hR h v0 3) fun x4 => gd (hS h x4 = some (.inl 12)) (bR (hR h x4 18) fun x5 => gd (ai h x5 0 v1) (lt (hI h x5 v1.toNatClampNeg) fun x6 => gd (hS h v0 = some (.inl 11)) (bR (hR h v0 3) fun x7 => gd (hS h x7 = some (.inl 12)) (bR (hR h x7 17) fun x8 => gd (ai h x8 0 v1) (lt (hI h x8 v1.toNatClampNeg) fun x9 => gd (¬ x9 = 0) (lt (irm (v2 - x6) x9 : Int32) fun y10 => gd (hS h v0 = some (.inl 11)) (bR (hR h v0 3) fun x11 => gd (hS h x11 = some (.inl 12)) (bR (hR h x11 17) fun x12 => gd (ai h x12 0 v1) (lt (hI h x12 v1.toNatClampNeg) fun x13 => if (x13 - y10) ≤ y10 then (gd (hS h v0 = some (.inl 11)) (bR (hR h v0 3) fun x14 => gd (hS h x14 = some (.inl 12)) (bR (hR h x14 17) fun x15 => gd (ai h x15 0 v1) (lt (hI h x15 v1.toNatClampNeg) fun x16 => some (x16 - y10, h))))) else (some (y10, h))))))))))))) else (gd (hS h v0 = some (.inl 11)) (bR (hR h v0 3) fun x17 => gd (hS h x17 = some (.inl 12)) (bR (hR h x17 18) fun x18 => gd (ai h x18 0 v1) (lt (hI h x18 v1.toNatClampNeg) fun x19 => some (x19 - v2, h))))))))
set_option maxHeartbeats 4000000 in
set_option maxRecDepth 20000 in
theorem t_m_off {G : GG} (v0 : Nat) (v1 : Int32) (v2 : Int32) (h : Hp) : Mt G M_m_off 0 [.ref v0, .int v1, .int v2] cI h (f_m_off v0 v1 v2 h) := by
  refine Mt.ofF (by decide +kernel) rfl (Rt.i rfl rfl) ?_
  show T G M_m_off 0 cI 0 [(0, .ref v0), (1, .int v1), (2, .int v2)] [] h _
  unfold f_m_off
  refine q_iload_n (pc := 0) (dq D_m_off_0_ok 0 rfl) rfl 2 rfl ?_
  refine q_aload_n (pc := 1) (dq D_m_off_0_ok 1 rfl) rfl 0 rfl ?_
  refine q_getR (pc := 2) (dq D_m_off_0_ok 2 rfl) fa_m_348 rfl (fun x1 => ?_)
  refine q_getR (pc := 5) (dq D_m_off_0_ok 3 rfl) fa_m_323 rfl (fun x2 => ?_)
  refine q_iload_n (pc := 8) (dq D_m_off_0_ok 4 rfl) rfl 1 rfl ?_
  refine r_iald (pc := 9) (dq D_m_off_0_ok 5 rfl) (fun x3 => ?_)
  refine q_ic_gt (pc := 10) 25 (dq D_m_off_0_ok 6 rfl) rfl ?_ ?_
  · refine q_iload_n (pc := 25) (dq D_m_off_0_ok 15 rfl) rfl 2 rfl ?_
    refine q_aload_n (pc := 26) (dq D_m_off_0_ok 16 rfl) rfl 0 rfl ?_
    refine q_getR (pc := 27) (dq D_m_off_0_ok 17 rfl) fa_m_348 rfl (fun x4 => ?_)
    refine q_getR (pc := 30) (dq D_m_off_0_ok 18 rfl) fa_m_323 rfl (fun x5 => ?_)
    refine q_iload_n (pc := 33) (dq D_m_off_0_ok 19 rfl) rfl 1 rfl ?_
    refine r_iald (pc := 34) (dq D_m_off_0_ok 20 rfl) (fun x6 => ?_)
    refine q_isub (pc := 35) (dq D_m_off_0_ok 21 rfl) ?_
    refine q_aload_n (pc := 36) (dq D_m_off_0_ok 22 rfl) rfl 0 rfl ?_
    refine q_getR (pc := 37) (dq D_m_off_0_ok 23 rfl) fa_m_348 rfl (fun x7 => ?_)
    refine q_getR (pc := 40) (dq D_m_off_0_ok 24 rfl) fa_m_317 rfl (fun x8 => ?_)
    refine q_iload_n (pc := 43) (dq D_m_off_0_ok 25 rfl) rfl 1 rfl ?_
    refine r_iald (pc := 44) (dq D_m_off_0_ok 26 rfl) (fun x9 => ?_)
    refine q_irem (pc := 45) (dq D_m_off_0_ok 27 rfl) ?_
    refine r_nmI (fun y10 => ?_)
    refine q_istore_n (pc := 46) (ls' := [(3, .int y10), (0, .ref v0), (1, .int v1), (2, .int v2)]) (dq D_m_off_0_ok 28 rfl) rfl rfl rfl ?_
    refine q_iload_n (pc := 47) (dq D_m_off_0_ok 29 rfl) rfl 0 rfl ?_
    refine q_aload_n (pc := 48) (dq D_m_off_0_ok 30 rfl) rfl 1 rfl ?_
    refine q_getR (pc := 49) (dq D_m_off_0_ok 31 rfl) fa_m_348 rfl (fun x11 => ?_)
    refine q_getR (pc := 52) (dq D_m_off_0_ok 32 rfl) fa_m_317 rfl (fun x12 => ?_)
    refine q_iload_n (pc := 55) (dq D_m_off_0_ok 33 rfl) rfl 2 rfl ?_
    refine r_iald (pc := 56) (dq D_m_off_0_ok 34 rfl) (fun x13 => ?_)
    refine q_iload_n (pc := 57) (dq D_m_off_0_ok 35 rfl) rfl 0 rfl ?_
    refine q_isub (pc := 58) (dq D_m_off_0_ok 36 rfl) ?_
    refine q_ic_ge (pc := 59) 66 (dq D_m_off_0_ok 37 rfl) rfl ?_ ?_
    · refine q_aload_n (pc := 66) (dq D_m_off_0_ok 40 rfl) rfl 1 rfl ?_
      refine q_getR (pc := 67) (dq D_m_off_0_ok 41 rfl) fa_m_348 rfl (fun x14 => ?_)
      refine q_getR (pc := 70) (dq D_m_off_0_ok 42 rfl) fa_m_317 rfl (fun x15 => ?_)
      refine q_iload_n (pc := 73) (dq D_m_off_0_ok 43 rfl) rfl 2 rfl ?_
      refine r_iald (pc := 74) (dq D_m_off_0_ok 44 rfl) (fun x16 => ?_)
      refine q_iload_n (pc := 75) (dq D_m_off_0_ok 45 rfl) rfl 0 rfl ?_
      refine q_isub (pc := 76) (dq D_m_off_0_ok 46 rfl) ?_
      exact r_reti (pc := 77) (dq D_m_off_0_ok 47 rfl) rfl
    · refine q_iload_n (pc := 62) (dq D_m_off_0_ok 38 rfl) rfl 0 rfl ?_
      refine q_goto (pc := 63) 77 (dq D_m_off_0_ok 39 rfl) rfl ?_
      exact r_reti (pc := 77) (dq D_m_off_0_ok 47 rfl) rfl
  · refine q_aload_n (pc := 13) (dq D_m_off_0_ok 7 rfl) rfl 0 rfl ?_
    refine q_getR (pc := 14) (dq D_m_off_0_ok 8 rfl) fa_m_348 rfl (fun x17 => ?_)
    refine q_getR (pc := 17) (dq D_m_off_0_ok 9 rfl) fa_m_323 rfl (fun x18 => ?_)
    refine q_iload_n (pc := 20) (dq D_m_off_0_ok 10 rfl) rfl 1 rfl ?_
    refine r_iald (pc := 21) (dq D_m_off_0_ok 11 rfl) (fun x19 => ?_)
    refine q_iload_n (pc := 22) (dq D_m_off_0_ok 12 rfl) rfl 2 rfl ?_
    refine q_isub (pc := 23) (dq D_m_off_0_ok 13 rfl) ?_
    exact r_reti (pc := 24) (dq D_m_off_0_ok 14 rfl) rfl
noncomputable def b_m_agree_62 (k27 : (Nat × Int32 × Int32) → Hp → Option (Int32 × Hp)) (v0 : Nat) (v1 : Int32) (v3 : Int32) (h : Hp) : Option (Int32 × Hp) := gd (hS h v0 = some (.inl 11)) (bd (f_m_aTurn v0 h) fun r2 h1 => k27 (v0, v1, v3 + 1) h1)
set_option maxHeartbeats 4000000 in
set_option maxRecDepth 20000 in
theorem tb_m_agree_62 {G : GG} {k27 : (Nat × Int32 × Int32) → Hp → Option (Int32 × Hp)} (hk27 : ∀ s h, T G M_m_agree 3 cI 27 [(0, .ref s.1), (1, .int s.2.1), (3, .int s.2.2)] [] h (k27 s h)) (v0 : Nat) (v1 : Int32) (v3 : Int32) (h : Hp) : T G M_m_agree 3 cI 62 [(0, .ref v0), (1, .int v1), (3, .int v3)] [] h (b_m_agree_62 k27 v0 v1 v3 h) := by
  unfold b_m_agree_62
  refine q_aload_n (pc := 62) (dq D_m_agree_0_ok 36 rfl) rfl 0 rfl ?_
  refine r_invI (Mc := M_m_aTurn) (pc := 63) (ci := 11) (rest := []) 2 0 [] (dq D_m_agree_0_ok 37 rfl) rfl rfl lc_m_aTurn lv_m_aTurn_ ml_m_403 rfl rfl rfl rfl (t_m_aTurn v0 h) (fun r2 h1 => ?_)
  refine q_pop (pc := 66) (dq D_m_agree_0_ok 38 rfl) rfl ?_
  refine q_iinc (pc := 67) (v := (1)) (ls' := [(3, .int (v3 + 1)), (0, .ref v0), (1, .int v1)]) (dq D_m_agree_0_ok 39 rfl) 2 rfl (by decide) rfl rfl ?_
  refine q_goto (pc := 70) 27 (dq D_m_agree_0_ok 40 rfl) rfl ?_
  exact T.lsub [1, 2, 0] rfl (hk27 (v0, v1, v3 + 1) h1)
noncomputable def b_m_agree_27 (k27 : (Nat × Int32 × Int32) → Hp → Option (Int32 × Hp)) (v0 : Nat) (v1 : Int32) (v3 : Int32) (h : Hp) : Option (Int32 × Hp) := if 5000 < v3 then (gd (hS h v0 = some (.inl 11)) (bd (f_m_good v0 ((-2)) h) fun r2 h1 => some (r2, h1))) else (gd (hS h v0 = some (.inl 11)) (bd (f_m_isOn v0 v1 h) fun r4 h3 => if r4 = 0 then (b_m_agree_62 k27 v0 v1 v3 h3) else (gd (hS h3 v0 = some (.inl 11)) (bR (hR h3 v0 16) fun x5 => gd (ai h3 x5 0 5) (lt (hI h3 x5 (5 : Int32).toNatClampNeg) fun x6 => gd (hS h3 v0 = some (.inl 11)) (bd (f_m_off v0 v1 x6 h3) fun r8 h7 => if r8 = 0 then (gd (hS h7 v0 = some (.inl 11)) (bd (f_m_good v0 v3 h7) fun r10 h9 => some (r10, h9))) else (b_m_agree_62 k27 v0 v1 v3 h7)))))))
set_option maxHeartbeats 4000000 in
set_option maxRecDepth 20000 in
theorem tb_m_agree_27 {G : GG} {k27 : (Nat × Int32 × Int32) → Hp → Option (Int32 × Hp)} (hk27 : ∀ s h, T G M_m_agree 3 cI 27 [(0, .ref s.1), (1, .int s.2.1), (3, .int s.2.2)] [] h (k27 s h)) (v0 : Nat) (v1 : Int32) (v3 : Int32) (h : Hp) : T G M_m_agree 3 cI 27 [(0, .ref v0), (1, .int v1), (3, .int v3)] [] h (b_m_agree_27 k27 v0 v1 v3 h) := by
  unfold b_m_agree_27
  refine q_iload_n (pc := 27) (dq D_m_agree_0_ok 17 rfl) rfl 2 rfl ?_
  refine q_sipush (pc := 28) (v := 5000) (dq D_m_agree_0_ok 18 rfl) (by decide) ?_
  refine q_ic_gt (pc := 31) 73 (dq D_m_agree_0_ok 19 rfl) rfl ?_ ?_
  · refine q_aload_n (pc := 73) (dq D_m_agree_0_ok 41 rfl) rfl 0 rfl ?_
    refine q_bipush (pc := 74) (v := (-2)) (dq D_m_agree_0_ok 42 rfl) (by decide) ?_
    refine r_invI (Mc := M_m_good) (pc := 76) (ci := 11) (rest := []) 0 1 [.int ((-2))] (dq D_m_agree_0_ok 43 rfl) rfl rfl lc_m_good lv_m_good_ ml_m_64 rfl rfl rfl rfl (t_m_good v0 ((-2)) h) (fun r2 h1 => ?_)
    exact r_reti (pc := 79) (dq D_m_agree_0_ok 44 rfl) rfl
  · refine q_aload_n (pc := 34) (dq D_m_agree_0_ok 20 rfl) rfl 0 rfl ?_
    refine q_iload_n (pc := 35) (dq D_m_agree_0_ok 21 rfl) rfl 1 rfl ?_
    refine r_invI (Mc := M_m_isOn) (pc := 36) (ci := 11) (rest := []) 1 1 [.int v1] (dq D_m_agree_0_ok 22 rfl) rfl rfl lc_m_isOn lv_m_isOn_ ml_m_385 rfl rfl rfl rfl (t_m_isOn v0 v1 h) (fun r4 h3 => ?_)
    refine p_if_eq (pc := 39) 62 (dq D_m_agree_0_ok 23 rfl) rfl ?_ ?_
    · exact T.lsub [0, 1, 2] rfl (tb_m_agree_62 hk27 v0 v1 v3 h3)
    · refine q_aload_n (pc := 42) (dq D_m_agree_0_ok 24 rfl) rfl 0 rfl ?_
      refine q_iload_n (pc := 43) (dq D_m_agree_0_ok 25 rfl) rfl 1 rfl ?_
      refine q_aload_n (pc := 44) (dq D_m_agree_0_ok 26 rfl) rfl 0 rfl ?_
      refine q_getR (pc := 45) (dq D_m_agree_0_ok 27 rfl) fa_m_21 rfl (fun x5 => ?_)
      refine q_ic5 (pc := 48) (dq D_m_agree_0_ok 28 rfl) ?_
      refine r_iald (pc := 49) (dq D_m_agree_0_ok 29 rfl) (fun x6 => ?_)
      refine r_invI (Mc := M_m_off) (pc := 50) (ci := 11) (rest := []) 0 2 [.int v1, .int x6] (dq D_m_agree_0_ok 30 rfl) rfl rfl lc_m_off lv_m_off_ ml_m_443 rfl rfl rfl rfl (t_m_off v0 v1 x6 h3) (fun r8 h7 => ?_)
      refine p_if_ne (pc := 53) 62 (dq D_m_agree_0_ok 31 rfl) rfl ?_ ?_
      · exact T.lsub [0, 1, 2] rfl (tb_m_agree_62 hk27 v0 v1 v3 h7)
      · refine q_aload_n (pc := 56) (dq D_m_agree_0_ok 32 rfl) rfl 0 rfl ?_
        refine q_iload_n (pc := 57) (dq D_m_agree_0_ok 33 rfl) rfl 2 rfl ?_
        refine r_invI (Mc := M_m_good) (pc := 58) (ci := 11) (rest := []) 0 1 [.int v3] (dq D_m_agree_0_ok 34 rfl) rfl rfl lc_m_good lv_m_good_ ml_m_64 rfl rfl rfl rfl (t_m_good v0 v3 h7) (fun r10 h9 => ?_)
        exact r_reti (pc := 61) (dq D_m_agree_0_ok 35 rfl) rfl
noncomputable def l_m_agree_27 : Nat → (Nat × Int32 × Int32) → Hp → Option (Int32 × Hp) := lp (fun k27 s h => b_m_agree_27 k27 s.1 s.2.1 s.2.2 h)
set_option maxHeartbeats 4000000 in
set_option maxRecDepth 20000 in
theorem tl_m_agree_27 {G : GG} (n : Nat) (s : Nat × Int32 × Int32) (h : Hp) : T G M_m_agree 3 cI 27 [(0, .ref s.1), (1, .int s.2.1), (3, .int s.2.2)] [] h (l_m_agree_27 n s h) :=
  T.loop (lsOf := fun s => [(0, .ref s.1), (1, .int s.2.1), (3, .int s.2.2)]) (fun k27 hk27 s h => tb_m_agree_27 hk27 s.1 s.2.1 s.2.2 h) n s h
noncomputable def f_m_agree (v0 : Nat) (v1 : Int32) (h : Hp) : Option (Int32 × Hp) := gd (hS h v0 = some (.inl 11)) (lt (uI h v0 0 0) fun h1 => gd (hS h1 v0 = some (.inl 11)) (bd (f_m_refusesSky v0 v1 h1) fun r3 h2 => if r3 ≤ 0 then (gd (hS h2 v0 = some (.inl 11)) (bd (f_m_works v0 h2) fun _ h4 => lt (0 : Int32) fun y6 => l_m_agree_27 FU (v0, v1, y6) h4)) else (gd (hS h2 v0 = some (.inl 11)) (bd (f_m_refused v0 r3 h2) fun r8 h7 => some (r8, h7)))))
set_option maxHeartbeats 4000000 in
set_option maxRecDepth 20000 in
theorem t_m_agree {G : GG} (v0 : Nat) (v1 : Int32) (h : Hp) : Mt G M_m_agree 3 [.ref v0, .int v1] cI h (f_m_agree v0 v1 h) := by
  refine Mt.ofF (by decide +kernel) rfl (Rt.i rfl rfl) ?_
  show T G M_m_agree 3 cI 0 [(0, .ref v0), (1, .int v1)] [] h _
  unfold f_m_agree
  refine q_aload_n (pc := 0) (dq D_m_agree_0_ok 0 rfl) rfl 0 rfl ?_
  refine q_ic0 (pc := 1) (dq D_m_agree_0_ok 1 rfl) ?_
  refine r_putI (pc := 2) (dq D_m_agree_0_ok 2 rfl) fp_m_54 rfl rfl (fun h1 => ?_)
  refine q_aload_n (pc := 5) (dq D_m_agree_0_ok 3 rfl) rfl 0 rfl ?_
  refine q_iload_n (pc := 6) (dq D_m_agree_0_ok 4 rfl) rfl 1 rfl ?_
  refine r_invI (Mc := M_m_refusesSky) (pc := 7) (ci := 11) (rest := []) 1 1 [.int v1] (dq D_m_agree_0_ok 5 rfl) rfl rfl lc_m_refusesSky lv_m_refusesSky_ ml_m_440 rfl rfl rfl rfl (t_m_refusesSky v0 v1 h1) (fun r3 h2 => ?_)
  refine q_istore_n (pc := 10) (ls' := [(2, .int r3), (0, .ref v0), (1, .int v1)]) (dq D_m_agree_0_ok 6 rfl) rfl rfl rfl ?_
  refine q_iload_n (pc := 11) (dq D_m_agree_0_ok 7 rfl) rfl 0 rfl ?_
  refine p_if_le (pc := 12) 21 (dq D_m_agree_0_ok 8 rfl) rfl ?_ ?_
  · refine q_aload_n (pc := 21) (dq D_m_agree_0_ok 13 rfl) rfl 1 rfl ?_
    refine r_invU (Mc := M_m_works) (pc := 22) (ci := 11) (rest := []) 0 0 [] (dq D_m_agree_0_ok 14 rfl) rfl rfl lc_m_works lv_m_works_ ml_m_383 rfl rfl rfl rfl (t_m_works v0 h2) (fun _ h4 => ?_)
    refine q_ic0 (pc := 25) (dq D_m_agree_0_ok 15 rfl) ?_
    refine r_nmI (fun y6 => ?_)
    refine q_istore_n (pc := 26) (ls' := [(3, .int y6), (2, .int r3), (0, .ref v0), (1, .int v1)]) (dq D_m_agree_0_ok 16 rfl) rfl rfl rfl ?_
    exact T.lsub [2, 3, 0] rfl (tl_m_agree_27 FU (v0, v1, y6) h4)
  · refine q_aload_n (pc := 15) (dq D_m_agree_0_ok 9 rfl) rfl 1 rfl ?_
    refine q_iload_n (pc := 16) (dq D_m_agree_0_ok 10 rfl) rfl 0 rfl ?_
    refine r_invI (Mc := M_m_refused) (pc := 17) (ci := 11) (rest := []) 0 1 [.int r3] (dq D_m_agree_0_ok 11 rfl) rfl rfl lc_m_refused lv_m_refused_ ml_m_60 rfl rfl rfl rfl (t_m_refused v0 r3 h2) (fun r8 h7 => ?_)
    exact r_reti (pc := 20) (dq D_m_agree_0_ok 12 rfl) rfl
noncomputable def b_m_drift_53 (s0 : Int32) (s1 : Nat) (h : Hp) : Option (Int32 × Hp) := gd (hS h s1 = some (.inl 11)) (bd (f_m_good s1 s0 h) fun r2 h1 => some (r2, h1))
set_option maxHeartbeats 4000000 in
set_option maxRecDepth 20000 in
theorem tb_m_drift_53 {G : GG} (s0 : Int32) (s1 : Nat) (h : Hp) : T G M_m_drift 4 cI 53 [] [.int s0, .ref s1] h (b_m_drift_53 s0 s1 h) := by
  unfold b_m_drift_53
  refine r_invI (Mc := M_m_good) (pc := 53) (ci := 11) (rest := []) 0 1 [.int s0] (dq D_m_drift_0_ok 33 rfl) rfl rfl lc_m_good lv_m_good_ ml_m_64 rfl rfl rfl rfl (t_m_good s1 s0 h) (fun r2 h1 => ?_)
  exact r_reti (pc := 56) (dq D_m_drift_0_ok 34 rfl) rfl
noncomputable def f_m_drift (v0 : Nat) (v1 : Int32) (h : Hp) : Option (Int32 × Hp) := gd (hS h v0 = some (.inl 11)) (lt (uI h v0 0 0) fun h1 => gd (hS h1 v0 = some (.inl 11)) (bd (f_m_refusesSky v0 v1 h1) fun r3 h2 => if r3 ≤ 0 then (gd (hS h2 v0 = some (.inl 11)) (bd (f_m_nextOf v0 v1 v1 h2) fun r5 h4 => if r5 = ((-2)) then (b_m_drift_53 ((-2)) v0 h4) else (gd (hS h4 v0 = some (.inl 11)) (bR (hR h4 v0 15) fun x6 => gd (ai h4 x6 0 5) (lt (hI h4 x6 (5 : Int32).toNatClampNeg) fun x7 => gd (hS h4 v0 = some (.inl 11)) (bd (f_m_off v0 v1 (x7 + r5) h4) fun r9 h8 => b_m_drift_53 r9 v0 h8)))))) else (gd (hS h2 v0 = some (.inl 11)) (bd (f_m_refused v0 r3 h2) fun r11 h10 => some (r11, h10)))))
set_option maxHeartbeats 4000000 in
set_option maxRecDepth 20000 in
theorem t_m_drift {G : GG} (v0 : Nat) (v1 : Int32) (h : Hp) : Mt G M_m_drift 4 [.ref v0, .int v1] cI h (f_m_drift v0 v1 h) := by
  refine Mt.ofF (by decide +kernel) rfl (Rt.i rfl rfl) ?_
  show T G M_m_drift 4 cI 0 [(0, .ref v0), (1, .int v1)] [] h _
  unfold f_m_drift
  refine q_aload_n (pc := 0) (dq D_m_drift_0_ok 0 rfl) rfl 0 rfl ?_
  refine q_ic0 (pc := 1) (dq D_m_drift_0_ok 1 rfl) ?_
  refine r_putI (pc := 2) (dq D_m_drift_0_ok 2 rfl) fp_m_54 rfl rfl (fun h1 => ?_)
  refine q_aload_n (pc := 5) (dq D_m_drift_0_ok 3 rfl) rfl 0 rfl ?_
  refine q_iload_n (pc := 6) (dq D_m_drift_0_ok 4 rfl) rfl 1 rfl ?_
  refine r_invI (Mc := M_m_refusesSky) (pc := 7) (ci := 11) (rest := []) 1 1 [.int v1] (dq D_m_drift_0_ok 5 rfl) rfl rfl lc_m_refusesSky lv_m_refusesSky_ ml_m_440 rfl rfl rfl rfl (t_m_refusesSky v0 v1 h1) (fun r3 h2 => ?_)
  refine q_istore_n (pc := 10) (ls' := [(2, .int r3), (0, .ref v0), (1, .int v1)]) (dq D_m_drift_0_ok 6 rfl) rfl rfl rfl ?_
  refine q_iload_n (pc := 11) (dq D_m_drift_0_ok 7 rfl) rfl 0 rfl ?_
  refine p_if_le (pc := 12) 21 (dq D_m_drift_0_ok 8 rfl) rfl ?_ ?_
  · refine q_aload_n (pc := 21) (dq D_m_drift_0_ok 13 rfl) rfl 1 rfl ?_
    refine q_iload_n (pc := 22) (dq D_m_drift_0_ok 14 rfl) rfl 2 rfl ?_
    refine q_iload_n (pc := 23) (dq D_m_drift_0_ok 15 rfl) rfl 2 rfl ?_
    refine r_invI (Mc := M_m_nextOf) (pc := 24) (ci := 11) (rest := []) 3 2 [.int v1, .int v1] (dq D_m_drift_0_ok 16 rfl) rfl rfl lc_m_nextOf lv_m_nextOf_ ml_m_406 rfl rfl rfl rfl (t_m_nextOf v0 v1 v1 h2) (fun r5 h4 => ?_)
    refine q_istore_n (pc := 27) (ls' := [(3, .int r5), (2, .int r3), (0, .ref v0), (1, .int v1)]) (dq D_m_drift_0_ok 17 rfl) rfl rfl rfl ?_
    refine q_aload_n (pc := 28) (dq D_m_drift_0_ok 18 rfl) rfl 2 rfl ?_
    refine q_iload_n (pc := 29) (dq D_m_drift_0_ok 19 rfl) rfl 0 rfl ?_
    refine q_bipush (pc := 30) (v := (-2)) (dq D_m_drift_0_ok 20 rfl) (by decide) ?_
    refine q_ic_ne (pc := 32) 40 (dq D_m_drift_0_ok 21 rfl) rfl ?_ ?_
    · refine q_aload_n (pc := 40) (dq D_m_drift_0_ok 24 rfl) rfl 2 rfl ?_
      refine q_iload_n (pc := 41) (dq D_m_drift_0_ok 25 rfl) rfl 3 rfl ?_
      refine q_aload_n (pc := 42) (dq D_m_drift_0_ok 26 rfl) rfl 2 rfl ?_
      refine q_getR (pc := 43) (dq D_m_drift_0_ok 27 rfl) fa_m_17 rfl (fun x6 => ?_)
      refine q_ic5 (pc := 46) (dq D_m_drift_0_ok 28 rfl) ?_
      refine r_iald (pc := 47) (dq D_m_drift_0_ok 29 rfl) (fun x7 => ?_)
      refine q_iload_n (pc := 48) (dq D_m_drift_0_ok 30 rfl) rfl 0 rfl ?_
      refine q_iadd (pc := 49) (dq D_m_drift_0_ok 31 rfl) ?_
      refine r_invI (Mc := M_m_off) (pc := 50) (ci := 11) (rest := [.ref v0]) 0 2 [.int v1, .int (x7 + r5)] (dq D_m_drift_0_ok 32 rfl) rfl rfl lc_m_off lv_m_off_ ml_m_443 rfl rfl rfl rfl (t_m_off v0 v1 (x7 + r5) h4) (fun r9 h8 => ?_)
      exact T.lsub [] rfl (tb_m_drift_53 r9 v0 h8)
    · refine q_bipush (pc := 35) (v := (-2)) (dq D_m_drift_0_ok 22 rfl) (by decide) ?_
      refine q_goto (pc := 37) 53 (dq D_m_drift_0_ok 23 rfl) rfl ?_
      exact T.lsub [] rfl (tb_m_drift_53 ((-2)) v0 h4)
  · refine q_aload_n (pc := 15) (dq D_m_drift_0_ok 9 rfl) rfl 1 rfl ?_
    refine q_iload_n (pc := 16) (dq D_m_drift_0_ok 10 rfl) rfl 0 rfl ?_
    refine r_invI (Mc := M_m_refused) (pc := 17) (ci := 11) (rest := []) 0 1 [.int r3] (dq D_m_drift_0_ok 11 rfl) rfl rfl lc_m_refused lv_m_refused_ ml_m_60 rfl rfl rfl rfl (t_m_refused v0 r3 h2) (fun r11 h10 => ?_)
    exact r_reti (pc := 20) (dq D_m_drift_0_ok 12 rfl) rfl
noncomputable def b_m_replays_144 (k52 : (Nat × Int32 × Int64 × Int32 × Int32 × Int32) → Hp → Option (Unit × Hp)) (v0 : Nat) (v2 : Int32) (v3 : Int64) (v5 : Int32) (v7 : Int32) (s0 : Int32) (s1 : Int32) (h : Hp) : Option (Unit × Hp) := lt (s1 - s0 : Int32) fun y1 => k52 (v0, v2, v3, v5, y1, v7 + 1) h
set_option maxHeartbeats 4000000 in
set_option maxRecDepth 20000 in
theorem tb_m_replays_144 {G : GG} {k52 : (Nat × Int32 × Int64 × Int32 × Int32 × Int32) → Hp → Option (Unit × Hp)} (hk52 : ∀ s h, T G M_m_replays 1 cU 52 [(0, .ref s.1), (2, .int s.2.1), (3, .long s.2.2.1), (5, .int s.2.2.2.1), (6, .int s.2.2.2.2.1), (7, .int s.2.2.2.2.2)] [] h (k52 s h)) (v0 : Nat) (v2 : Int32) (v3 : Int64) (v5 : Int32) (v7 : Int32) (s0 : Int32) (s1 : Int32) (h : Hp) : T G M_m_replays 1 cU 144 [(0, .ref v0), (2, .int v2), (3, .long v3), (5, .int v5), (7, .int v7)] [.int s0, .int s1] h (b_m_replays_144 k52 v0 v2 v3 v5 v7 s0 s1 h) := by
  unfold b_m_replays_144
  refine q_isub (pc := 144) (dq D_m_replays_1_ok 19 rfl) ?_
  refine r_nmI (fun y1 => ?_)
  refine q_istore (pc := 145) (ls' := [(6, .int y1), (0, .ref v0), (2, .int v2), (3, .long v3), (5, .int v5), (7, .int v7)]) (dq D_m_replays_1_ok 20 rfl) rfl rfl ?_
  refine q_iinc (pc := 147) (v := (1)) (ls' := [(7, .int (v7 + 1)), (6, .int y1), (0, .ref v0), (2, .int v2), (3, .long v3), (5, .int v5)]) (dq D_m_replays_1_ok 21 rfl) 5 rfl (by decide) rfl rfl ?_
  refine q_goto (pc := 150) 52 (dq D_m_replays_1_ok 22 rfl) rfl ?_
  exact T.lsub [2, 3, 4, 5, 1, 0] rfl (hk52 (v0, v2, v3, v5, y1, v7 + 1) h)
noncomputable def b_m_replays_132 (k52 : (Nat × Int32 × Int64 × Int32 × Int32 × Int32) → Hp → Option (Unit × Hp)) (v0 : Nat) (v2 : Int32) (v3 : Int64) (v5 : Int32) (v6 : Int32) (v7 : Int32) (h : Hp) : Option (Unit × Hp) := if v6 ≤ 0 then (b_m_replays_144 k52 v0 v2 v3 v5 v7 0 v6 h) else (b_m_replays_144 k52 v0 v2 v3 v5 v7 1 v6 h)
set_option maxHeartbeats 4000000 in
set_option maxRecDepth 20000 in
theorem tb_m_replays_132 {G : GG} {k52 : (Nat × Int32 × Int64 × Int32 × Int32 × Int32) → Hp → Option (Unit × Hp)} (hk52 : ∀ s h, T G M_m_replays 1 cU 52 [(0, .ref s.1), (2, .int s.2.1), (3, .long s.2.2.1), (5, .int s.2.2.2.1), (6, .int s.2.2.2.2.1), (7, .int s.2.2.2.2.2)] [] h (k52 s h)) (v0 : Nat) (v2 : Int32) (v3 : Int64) (v5 : Int32) (v6 : Int32) (v7 : Int32) (h : Hp) : T G M_m_replays 1 cU 132 [(0, .ref v0), (2, .int v2), (3, .long v3), (5, .int v5), (6, .int v6), (7, .int v7)] [] h (b_m_replays_132 k52 v0 v2 v3 v5 v6 v7 h) := by
  unfold b_m_replays_132
  refine q_iload (pc := 132) (dq D_m_replays_1_ok 13 rfl) 4 rfl ?_
  refine q_iload (pc := 134) (dq D_m_replays_1_ok 14 rfl) 4 rfl ?_
  refine p_if_le (pc := 136) 143 (dq D_m_replays_1_ok 15 rfl) rfl ?_ ?_
  · refine q_ic0 (pc := 143) (dq D_m_replays_1_ok 18 rfl) ?_
    exact T.lsub [0, 1, 2, 3, 5] rfl (tb_m_replays_144 hk52 v0 v2 v3 v5 v7 0 v6 h)
  · refine q_ic1 (pc := 139) (dq D_m_replays_1_ok 16 rfl) ?_
    refine q_goto (pc := 140) 144 (dq D_m_replays_1_ok 17 rfl) rfl ?_
    exact T.lsub [0, 1, 2, 3, 5] rfl (tb_m_replays_144 hk52 v0 v2 v3 v5 v7 1 v6 h)
noncomputable def b_m_replays_131 (k52 : (Nat × Int32 × Int64 × Int32 × Int32 × Int32) → Hp → Option (Unit × Hp)) (v0 : Nat) (v2 : Int32) (v3 : Int64) (v5 : Int32) (v6 : Int32) (v7 : Int32) (s0 : Int32) (s1 : Int32) (s2 : Nat) (h : Hp) : Option (Unit × Hp) := gd (ai h s2 0 s1) (lt (uI h s2 s1.toNatClampNeg s0) fun h1 => b_m_replays_132 k52 v0 v2 v3 v5 v6 v7 h1)
set_option maxHeartbeats 4000000 in
set_option maxRecDepth 20000 in
theorem tb_m_replays_131 {G : GG} {k52 : (Nat × Int32 × Int64 × Int32 × Int32 × Int32) → Hp → Option (Unit × Hp)} (hk52 : ∀ s h, T G M_m_replays 1 cU 52 [(0, .ref s.1), (2, .int s.2.1), (3, .long s.2.2.1), (5, .int s.2.2.2.1), (6, .int s.2.2.2.2.1), (7, .int s.2.2.2.2.2)] [] h (k52 s h)) (v0 : Nat) (v2 : Int32) (v3 : Int64) (v5 : Int32) (v6 : Int32) (v7 : Int32) (s0 : Int32) (s1 : Int32) (s2 : Nat) (h : Hp) : T G M_m_replays 1 cU 131 [(0, .ref v0), (2, .int v2), (3, .long v3), (5, .int v5), (6, .int v6), (7, .int v7)] [.int s0, .int s1, .ref s2] h (b_m_replays_131 k52 v0 v2 v3 v5 v6 v7 s0 s1 s2 h) := by
  unfold b_m_replays_131
  refine r_iast (pc := 131) (dq D_m_replays_1_ok 12 rfl) (fun h1 => ?_)
  exact T.lsub [0, 1, 2, 3, 4, 5] rfl (tb_m_replays_132 hk52 v0 v2 v3 v5 v6 v7 h1)
noncomputable def b_m_replays_52 (k52 : (Nat × Int32 × Int64 × Int32 × Int32 × Int32) → Hp → Option (Unit × Hp)) (v0 : Nat) (v2 : Int32) (v3 : Int64) (v5 : Int32) (v6 : Int32) (v7 : Int32) (h : Hp) : Option (Unit × Hp) := if 99 < v7 then (some ((), h)) else (gd (hS h v0 = some (.inl 11)) (bR (hR h v0 28) fun x1 => gd (ai h x1 0 v7) (lt (uI h x1 v7.toNatClampNeg 0) fun h2 => gd (hS h2 v0 = some (.inl 11)) (bd (f_m_isGoing v0 v2 (v7 - 1) v6 h2) fun r4 h3 => if r4 = 0 then (b_m_replays_132 k52 v0 v2 v3 v5 v6 v7 h3) else (gd (hS h3 v0 = some (.inl 11)) (bR (hR h3 v0 3) fun x5 => gd (hS h3 x5 = some (.inl 12)) (bR (hR h3 x5 11) fun x6 => gd (ai h3 x6 0 v2) (lt (hI h3 x6 v2.toNatClampNeg) fun x7 => gd (hS h3 v0 = some (.inl 11)) (bR (hR h3 v0 3) fun x8 => gd (hS h3 x8 = some (.inl 12)) (bR (hR h3 x8 12) fun x9 => gd (ai h3 x9 0 v2) (lt (hI h3 x9 v2.toNatClampNeg) fun x10 => gd (hS h3 v0 = some (.inl 11)) (bd (f_m_way v0 v2 x10 h3) fun r12 h11 => gd (hS h11 v0 = some (.inl 11)) (bd (f_m_goes v0 x7 v3 v5 r12 h11) fun r14 h13 => gd (hS h13 v0 = some (.inl 11)) (bR (hR h13 v0 28) fun x15 => gd (hS h13 v0 = some (.inl 11)) (lt (hI h13 v0 21) fun x16 => if x16 = 0 then (b_m_replays_131 k52 v0 v2 v3 r14 v6 v7 0 v7 x15 h13) else (b_m_replays_131 k52 v0 v2 v3 r14 v6 v7 1 v7 x15 h13))))))))))))))))
set_option maxHeartbeats 4000000 in
set_option maxRecDepth 20000 in
theorem tb_m_replays_52 {G : GG} {k52 : (Nat × Int32 × Int64 × Int32 × Int32 × Int32) → Hp → Option (Unit × Hp)} (hk52 : ∀ s h, T G M_m_replays 1 cU 52 [(0, .ref s.1), (2, .int s.2.1), (3, .long s.2.2.1), (5, .int s.2.2.2.1), (6, .int s.2.2.2.2.1), (7, .int s.2.2.2.2.2)] [] h (k52 s h)) (v0 : Nat) (v2 : Int32) (v3 : Int64) (v5 : Int32) (v6 : Int32) (v7 : Int32) (h : Hp) : T G M_m_replays 1 cU 52 [(0, .ref v0), (2, .int v2), (3, .long v3), (5, .int v5), (6, .int v6), (7, .int v7)] [] h (b_m_replays_52 k52 v0 v2 v3 v5 v6 v7 h) := by
  unfold b_m_replays_52
  refine q_iload (pc := 52) (dq D_m_replays_0_ok 29 rfl) 5 rfl ?_
  refine q_bipush (pc := 54) (v := 99) (dq D_m_replays_0_ok 30 rfl) (by decide) ?_
  refine q_ic_gt (pc := 56) 153 (dq D_m_replays_0_ok 31 rfl) rfl ?_ ?_
  · exact r_retu (pc := 153) (dq D_m_replays_1_ok 23 rfl) rfl
  · refine q_aload_n (pc := 59) (dq D_m_replays_0_ok 32 rfl) rfl 0 rfl ?_
    refine q_getR (pc := 60) (dq D_m_replays_0_ok 33 rfl) fa_m_42 rfl (fun x1 => ?_)
    refine q_iload (pc := 63) (dq D_m_replays_0_ok 34 rfl) 5 rfl ?_
    refine q_ic0 (pc := 65) (dq D_m_replays_0_ok 35 rfl) ?_
    refine r_iast (pc := 66) (dq D_m_replays_0_ok 36 rfl) (fun h2 => ?_)
    refine q_aload_n (pc := 67) (dq D_m_replays_0_ok 37 rfl) rfl 0 rfl ?_
    refine q_iload_n (pc := 68) (dq D_m_replays_0_ok 38 rfl) rfl 1 rfl ?_
    refine q_iload (pc := 69) (dq D_m_replays_0_ok 39 rfl) 5 rfl ?_
    refine q_ic1 (pc := 71) (dq D_m_replays_0_ok 40 rfl) ?_
    refine q_isub (pc := 72) (dq D_m_replays_0_ok 41 rfl) ?_
    refine q_iload (pc := 73) (dq D_m_replays_0_ok 42 rfl) 4 rfl ?_
    refine r_invI (Mc := M_m_isGoing) (pc := 75) (ci := 11) (rest := []) 0 3 [.int v2, .int (v7 - 1), .int v6] (dq D_m_replays_0_ok 43 rfl) rfl rfl lc_m_isGoing lv_m_isGoing_ ml_m_377 rfl rfl rfl rfl (t_m_isGoing v0 v2 (v7 - 1) v6 h2) (fun r4 h3 => ?_)
    refine p_if_eq (pc := 78) 132 (dq D_m_replays_0_ok 44 rfl) rfl ?_ ?_
    · exact T.lsub [0, 1, 2, 3, 4, 5] rfl (tb_m_replays_132 hk52 v0 v2 v3 v5 v6 v7 h3)
    · refine q_aload_n (pc := 81) (dq D_m_replays_0_ok 45 rfl) rfl 0 rfl ?_
      refine q_aload_n (pc := 82) (dq D_m_replays_0_ok 46 rfl) rfl 0 rfl ?_
      refine q_getR (pc := 83) (dq D_m_replays_0_ok 47 rfl) fa_m_348 rfl (fun x5 => ?_)
      refine q_getR (pc := 86) (dq D_m_replays_0_ok 48 rfl) fa_m_269 rfl (fun x6 => ?_)
      refine q_iload_n (pc := 89) (dq D_m_replays_0_ok 49 rfl) rfl 1 rfl ?_
      refine r_iald (pc := 90) (dq D_m_replays_0_ok 50 rfl) (fun x7 => ?_)
      refine q_lload_n (pc := 91) (dq D_m_replays_0_ok 51 rfl) rfl 2 rfl ?_
      refine q_iload (pc := 92) (dq D_m_replays_0_ok 52 rfl) 3 rfl ?_
      refine q_aload_n (pc := 94) (dq D_m_replays_0_ok 53 rfl) rfl 0 rfl ?_
      refine q_iload_n (pc := 95) (dq D_m_replays_0_ok 54 rfl) rfl 1 rfl ?_
      refine q_aload_n (pc := 96) (dq D_m_replays_0_ok 55 rfl) rfl 0 rfl ?_
      refine q_getR (pc := 97) (dq D_m_replays_0_ok 56 rfl) fa_m_348 rfl (fun x8 => ?_)
      refine q_getR (pc := 100) (dq D_m_replays_0_ok 57 rfl) fa_m_271 rfl (fun x9 => ?_)
      refine q_iload_n (pc := 103) (dq D_m_replays_0_ok 58 rfl) rfl 1 rfl ?_
      refine r_iald (pc := 104) (dq D_m_replays_0_ok 59 rfl) (fun x10 => ?_)
      refine r_invI (Mc := M_m_way) (pc := 105) (ci := 11) (rest := [.int v5, .long v3, .int x7, .ref v0]) 0 2 [.int v2, .int x10] (dq D_m_replays_1_ok 0 rfl) rfl rfl lc_m_way lv_m_way_ ml_m_367 rfl rfl rfl rfl (t_m_way v0 v2 x10 h3) (fun r12 h11 => ?_)
      refine r_invI (Mc := M_m_goes) (pc := 108) (ci := 11) (rest := []) 0 4 [.int x7, .long v3, .int v5, .int r12] (dq D_m_replays_1_ok 1 rfl) rfl rfl lc_m_goes lv_m_goes_ ml_m_370 rfl rfl rfl rfl (t_m_goes v0 x7 v3 v5 r12 h11) (fun r14 h13 => ?_)
      refine q_istore (pc := 111) (ls' := [(5, .int r14), (0, .ref v0), (2, .int v2), (3, .long v3), (6, .int v6), (7, .int v7)]) (dq D_m_replays_1_ok 2 rfl) rfl rfl ?_
      refine q_aload_n (pc := 113) (dq D_m_replays_1_ok 3 rfl) rfl 1 rfl ?_
      refine q_getR (pc := 114) (dq D_m_replays_1_ok 4 rfl) fa_m_42 rfl (fun x15 => ?_)
      refine q_iload (pc := 117) (dq D_m_replays_1_ok 5 rfl) 5 rfl ?_
      refine q_aload_n (pc := 119) (dq D_m_replays_1_ok 6 rfl) rfl 1 rfl ?_
      refine r_getI (pc := 120) (dq D_m_replays_1_ok 7 rfl) fa_m_363 rfl (fun x16 => ?_)
      refine p_if_eq (pc := 123) 130 (dq D_m_replays_1_ok 8 rfl) rfl ?_ ?_
      · refine q_ic0 (pc := 130) (dq D_m_replays_1_ok 11 rfl) ?_
        exact T.lsub [1, 2, 3, 0, 4, 5] rfl (tb_m_replays_131 hk52 v0 v2 v3 r14 v6 v7 0 v7 x15 h13)
      · refine q_ic1 (pc := 126) (dq D_m_replays_1_ok 9 rfl) ?_
        refine q_goto (pc := 127) 131 (dq D_m_replays_1_ok 10 rfl) rfl ?_
        exact T.lsub [1, 2, 3, 0, 4, 5] rfl (tb_m_replays_131 hk52 v0 v2 v3 r14 v6 v7 1 v7 x15 h13)
noncomputable def l_m_replays_52 : Nat → (Nat × Int32 × Int64 × Int32 × Int32 × Int32) → Hp → Option (Unit × Hp) := lp (fun k52 s h => b_m_replays_52 k52 s.1 s.2.1 s.2.2.1 s.2.2.2.1 s.2.2.2.2.1 s.2.2.2.2.2 h)
set_option maxHeartbeats 4000000 in
set_option maxRecDepth 20000 in
theorem tl_m_replays_52 {G : GG} (n : Nat) (s : Nat × Int32 × Int64 × Int32 × Int32 × Int32) (h : Hp) : T G M_m_replays 1 cU 52 [(0, .ref s.1), (2, .int s.2.1), (3, .long s.2.2.1), (5, .int s.2.2.2.1), (6, .int s.2.2.2.2.1), (7, .int s.2.2.2.2.2)] [] h (l_m_replays_52 n s h) :=
  T.loop (lsOf := fun s => [(0, .ref s.1), (2, .int s.2.1), (3, .long s.2.2.1), (5, .int s.2.2.2.1), (6, .int s.2.2.2.2.1), (7, .int s.2.2.2.2.2)]) (fun k52 hk52 s h => tb_m_replays_52 hk52 s.1 s.2.1 s.2.2.1 s.2.2.2.1 s.2.2.2.2.1 s.2.2.2.2.2 h) n s h
noncomputable def b_m_replays_28 (v0 : Nat) (v2 : Int32) (s0 : Int64) (h : Hp) : Option (Unit × Hp) := gd (hS h v0 = some (.inl 11)) (bR (hR h v0 3) fun x1 => gd (hS h x1 = some (.inl 12)) (bR (hR h x1 13) fun x2 => gd (ai h x2 0 v2) (lt (hI h x2 v2.toNatClampNeg) fun x3 => gd (hS h v0 = some (.inl 11)) (bR (hR h v0 3) fun x4 => gd (hS h x4 = some (.inl 12)) (lt (hI h x4 0) fun x5 => lt (1 : Int32) fun y6 => l_m_replays_52 FU (v0, v2, s0, x3, x5, y6) h)))))
set_option maxHeartbeats 4000000 in
set_option maxRecDepth 20000 in
theorem tb_m_replays_28 {G : GG} (v0 : Nat) (v2 : Int32) (s0 : Int64) (h : Hp) : T G M_m_replays 1 cU 28 [(0, .ref v0), (2, .int v2)] [.long s0] h (b_m_replays_28 v0 v2 s0 h) := by
  unfold b_m_replays_28
  refine q_lstore_n (pc := 28) (ls' := [(3, .long s0), (0, .ref v0), (2, .int v2)]) (dq D_m_replays_0_ok 16 rfl) rfl rfl rfl ?_
  refine q_aload_n (pc := 29) (dq D_m_replays_0_ok 17 rfl) rfl 1 rfl ?_
  refine q_getR (pc := 30) (dq D_m_replays_0_ok 18 rfl) fa_m_348 rfl (fun x1 => ?_)
  refine q_getR (pc := 33) (dq D_m_replays_0_ok 19 rfl) fa_m_273 rfl (fun x2 => ?_)
  refine q_iload_n (pc := 36) (dq D_m_replays_0_ok 20 rfl) rfl 2 rfl ?_
  refine r_iald (pc := 37) (dq D_m_replays_0_ok 21 rfl) (fun x3 => ?_)
  refine q_istore (pc := 38) (ls' := [(5, .int x3), (3, .long s0), (0, .ref v0), (2, .int v2)]) (dq D_m_replays_0_ok 22 rfl) rfl rfl ?_
  refine q_aload_n (pc := 40) (dq D_m_replays_0_ok 23 rfl) rfl 2 rfl ?_
  refine q_getR (pc := 41) (dq D_m_replays_0_ok 24 rfl) fa_m_348 rfl (fun x4 => ?_)
  refine r_getI (pc := 44) (dq D_m_replays_0_ok 25 rfl) fa_m_170 rfl (fun x5 => ?_)
  refine q_istore (pc := 47) (ls' := [(6, .int x5), (5, .int x3), (3, .long s0), (0, .ref v0), (2, .int v2)]) (dq D_m_replays_0_ok 26 rfl) rfl rfl ?_
  refine q_ic1 (pc := 49) (dq D_m_replays_0_ok 27 rfl) ?_
  refine r_nmI (fun y6 => ?_)
  refine q_istore (pc := 50) (ls' := [(7, .int y6), (6, .int x5), (5, .int x3), (3, .long s0), (0, .ref v0), (2, .int v2)]) (dq D_m_replays_0_ok 28 rfl) rfl rfl ?_
  exact T.lsub [4, 5, 3, 2, 1, 0] rfl (tl_m_replays_52 FU (v0, v2, s0, x3, x5, y6) h)
noncomputable def f_m_replays (v0 : Nat) (v1 : Int32) (h : Hp) : Option (Unit × Hp) := gd (hS h v0 = some (.inl 11)) (bR (hR h v0 3) fun x1 => gd (hS h x1 = some (.inl 12)) (lt (hI h x1 7) fun x2 => gd (hS h v0 = some (.inl 11)) (bR (hR h v0 3) fun x3 => gd (hS h x3 = some (.inl 12)) (bR (hR h x3 11) fun x4 => gd (ai h x4 0 x2) (lt (hI h x4 x2.toNatClampNeg) fun x5 => if v1 = x5 then (b_m_replays_28 v0 x2 0 h) else (b_m_replays_28 v0 x2 ((1 : Int64) <<< (v1.toInt64 &&& 63)) h))))))
set_option maxHeartbeats 4000000 in
set_option maxRecDepth 20000 in
theorem t_m_replays {G : GG} (v0 : Nat) (v1 : Int32) (h : Hp) : Mt G M_m_replays 1 [.ref v0, .int v1] cU h (f_m_replays v0 v1 h) := by
  refine Mt.ofF (by decide +kernel) rfl (Rt.v rfl rfl) ?_
  show T G M_m_replays 1 cU 0 [(0, .ref v0), (1, .int v1)] [] h _
  unfold f_m_replays
  refine q_aload_n (pc := 0) (dq D_m_replays_0_ok 0 rfl) rfl 0 rfl ?_
  refine q_getR (pc := 1) (dq D_m_replays_0_ok 1 rfl) fa_m_348 rfl (fun x1 => ?_)
  refine r_getI (pc := 4) (dq D_m_replays_0_ok 2 rfl) fa_m_278 rfl (fun x2 => ?_)
  refine q_istore_n (pc := 7) (ls' := [(2, .int x2), (0, .ref v0), (1, .int v1)]) (dq D_m_replays_0_ok 3 rfl) rfl rfl rfl ?_
  refine q_iload_n (pc := 8) (dq D_m_replays_0_ok 4 rfl) rfl 2 rfl ?_
  refine q_aload_n (pc := 9) (dq D_m_replays_0_ok 5 rfl) rfl 1 rfl ?_
  refine q_getR (pc := 10) (dq D_m_replays_0_ok 6 rfl) fa_m_348 rfl (fun x3 => ?_)
  refine q_getR (pc := 13) (dq D_m_replays_0_ok 7 rfl) fa_m_269 rfl (fun x4 => ?_)
  refine q_iload_n (pc := 16) (dq D_m_replays_0_ok 8 rfl) rfl 0 rfl ?_
  refine r_iald (pc := 17) (dq D_m_replays_0_ok 9 rfl) (fun x5 => ?_)
  refine q_ic_ne (pc := 18) 25 (dq D_m_replays_0_ok 10 rfl) rfl ?_ ?_
  · refine q_lconst (pc := 25) (v := 1) (dq D_m_replays_0_ok 13 rfl) (by decide) ?_
    refine q_iload_n (pc := 26) (dq D_m_replays_0_ok 14 rfl) rfl 2 rfl ?_
    refine q_lshl (pc := 27) (dq D_m_replays_0_ok 15 rfl) ?_
    exact T.lsub [1, 0] rfl (tb_m_replays_28 v0 x2 ((1 : Int64) <<< (v1.toInt64 &&& 63)) h)
  · refine q_lconst (pc := 21) (v := 0) (dq D_m_replays_0_ok 11 rfl) (by decide) ?_
    refine q_goto (pc := 22) 28 (dq D_m_replays_0_ok 12 rfl) rfl ?_
    exact T.lsub [1, 0] rfl (tb_m_replays_28 v0 x2 0 h)
noncomputable def b_m_wrong_7 (k7 : (Nat × Int32) → Hp → Option (Int32 × Hp)) (v0 : Nat) (v2 : Int32) (h : Hp) : Option (Int32 × Hp) := gd (hS h v0 = some (.inl 11)) (bR (hR h v0 3) fun x1 => gd (hS h x1 = some (.inl 12)) (lt (hI h x1 8) fun x2 => if x2 ≤ v2 then (some ((-2), h)) else (gd (hS h v0 = some (.inl 11)) (bR (hR h v0 28) fun x3 => gd (hS h v0 = some (.inl 11)) (bR (hR h v0 3) fun x4 => gd (hS h x4 = some (.inl 12)) (bR (hR h x4 22) fun x5 => gd (ai h x5 0 v2) (lt (hI h x5 v2.toNatClampNeg) fun x6 => gd (ai h x3 0 x6) (lt (hI h x3 x6.toNatClampNeg) fun x7 => gd (hS h v0 = some (.inl 11)) (bR (hR h v0 3) fun x8 => gd (hS h x8 = some (.inl 12)) (bR (hR h x8 23) fun x9 => gd (ai h x9 0 v2) (lt (hI h x9 v2.toNatClampNeg) fun x10 => if x7 = x10 then (k7 (v0, v2 + 1) h) else (some (v2, h)))))))))))))
set_option maxHeartbeats 4000000 in
set_option maxRecDepth 20000 in
theorem tb_m_wrong_7 {G : GG} {k7 : (Nat × Int32) → Hp → Option (Int32 × Hp)} (hk7 : ∀ s h, T G M_m_wrong 2 cI 7 [(0, .ref s.1), (2, .int s.2)] [] h (k7 s h)) (v0 : Nat) (v2 : Int32) (h : Hp) : T G M_m_wrong 2 cI 7 [(0, .ref v0), (2, .int v2)] [] h (b_m_wrong_7 k7 v0 v2 h) := by
  unfold b_m_wrong_7
  refine q_iload_n (pc := 7) (dq D_m_wrong_0_ok 5 rfl) rfl 1 rfl ?_
  refine q_aload_n (pc := 8) (dq D_m_wrong_0_ok 6 rfl) rfl 0 rfl ?_
  refine q_getR (pc := 9) (dq D_m_wrong_0_ok 7 rfl) fa_m_348 rfl (fun x1 => ?_)
  refine r_getI (pc := 12) (dq D_m_wrong_0_ok 8 rfl) fa_m_328 rfl (fun x2 => ?_)
  refine q_ic_ge (pc := 15) 52 (dq D_m_wrong_0_ok 9 rfl) rfl ?_ ?_
  · refine q_bipush (pc := 52) (v := (-2)) (dq D_m_wrong_0_ok 28 rfl) (by decide) ?_
    exact r_reti (pc := 54) (dq D_m_wrong_0_ok 29 rfl) rfl
  · refine q_aload_n (pc := 18) (dq D_m_wrong_0_ok 10 rfl) rfl 0 rfl ?_
    refine q_getR (pc := 19) (dq D_m_wrong_0_ok 11 rfl) fa_m_42 rfl (fun x3 => ?_)
    refine q_aload_n (pc := 22) (dq D_m_wrong_0_ok 12 rfl) rfl 0 rfl ?_
    refine q_getR (pc := 23) (dq D_m_wrong_0_ok 13 rfl) fa_m_348 rfl (fun x4 => ?_)
    refine q_getR (pc := 26) (dq D_m_wrong_0_ok 14 rfl) fa_m_336 rfl (fun x5 => ?_)
    refine q_iload_n (pc := 29) (dq D_m_wrong_0_ok 15 rfl) rfl 1 rfl ?_
    refine r_iald (pc := 30) (dq D_m_wrong_0_ok 16 rfl) (fun x6 => ?_)
    refine r_iald (pc := 31) (dq D_m_wrong_0_ok 17 rfl) (fun x7 => ?_)
    refine q_aload_n (pc := 32) (dq D_m_wrong_0_ok 18 rfl) rfl 0 rfl ?_
    refine q_getR (pc := 33) (dq D_m_wrong_0_ok 19 rfl) fa_m_348 rfl (fun x8 => ?_)
    refine q_getR (pc := 36) (dq D_m_wrong_0_ok 20 rfl) fa_m_339 rfl (fun x9 => ?_)
    refine q_iload_n (pc := 39) (dq D_m_wrong_0_ok 21 rfl) rfl 1 rfl ?_
    refine r_iald (pc := 40) (dq D_m_wrong_0_ok 22 rfl) (fun x10 => ?_)
    refine q_ic_eq (pc := 41) 46 (dq D_m_wrong_0_ok 23 rfl) rfl ?_ ?_
    · refine q_iinc (pc := 46) (v := (1)) (ls' := [(2, .int (v2 + 1)), (0, .ref v0)]) (dq D_m_wrong_0_ok 26 rfl) 1 rfl (by decide) rfl rfl ?_
      refine q_goto (pc := 49) 7 (dq D_m_wrong_0_ok 27 rfl) rfl ?_
      exact T.lsub [1, 0] rfl (hk7 (v0, v2 + 1) h)
    · refine q_iload_n (pc := 44) (dq D_m_wrong_0_ok 24 rfl) rfl 1 rfl ?_
      exact r_reti (pc := 45) (dq D_m_wrong_0_ok 25 rfl) rfl
noncomputable def l_m_wrong_7 : Nat → (Nat × Int32) → Hp → Option (Int32 × Hp) := lp (fun k7 s h => b_m_wrong_7 k7 s.1 s.2 h)
set_option maxHeartbeats 4000000 in
set_option maxRecDepth 20000 in
theorem tl_m_wrong_7 {G : GG} (n : Nat) (s : Nat × Int32) (h : Hp) : T G M_m_wrong 2 cI 7 [(0, .ref s.1), (2, .int s.2)] [] h (l_m_wrong_7 n s h) :=
  T.loop (lsOf := fun s => [(0, .ref s.1), (2, .int s.2)]) (fun k7 hk7 s h => tb_m_wrong_7 hk7 s.1 s.2 h) n s h
noncomputable def f_m_wrong (v0 : Nat) (v1 : Int32) (h : Hp) : Option (Int32 × Hp) := gd (hS h v0 = some (.inl 11)) (bd (f_m_replays v0 v1 h) fun _ h1 => lt (0 : Int32) fun y3 => l_m_wrong_7 FU (v0, y3) h1)
set_option maxHeartbeats 4000000 in
set_option maxRecDepth 20000 in
theorem t_m_wrong {G : GG} (v0 : Nat) (v1 : Int32) (h : Hp) : Mt G M_m_wrong 2 [.ref v0, .int v1] cI h (f_m_wrong v0 v1 h) := by
  refine Mt.ofF (by decide +kernel) rfl (Rt.i rfl rfl) ?_
  show T G M_m_wrong 2 cI 0 [(0, .ref v0), (1, .int v1)] [] h _
  unfold f_m_wrong
  refine q_aload_n (pc := 0) (dq D_m_wrong_0_ok 0 rfl) rfl 0 rfl ?_
  refine q_iload_n (pc := 1) (dq D_m_wrong_0_ok 1 rfl) rfl 1 rfl ?_
  refine r_invU (Mc := M_m_replays) (pc := 2) (ci := 11) (rest := []) 1 1 [.int v1] (dq D_m_wrong_0_ok 2 rfl) rfl rfl lc_m_replays lv_m_replays_ ml_m_446 rfl rfl rfl rfl (t_m_replays v0 v1 h) (fun _ h1 => ?_)
  refine q_ic0 (pc := 5) (dq D_m_wrong_0_ok 3 rfl) ?_
  refine r_nmI (fun y3 => ?_)
  refine q_istore_n (pc := 6) (ls' := [(2, .int y3), (0, .ref v0), (1, .int v1)]) (dq D_m_wrong_0_ok 4 rfl) rfl rfl rfl ?_
  exact T.lsub [1, 0] rfl (tl_m_wrong_7 FU (v0, y3) h1)
noncomputable def b_m_fitting_115 (k30 : (Nat × Int32 × Int32 × Int32) → Hp → Option (Int32 × Hp)) (v0 : Nat) (v1 : Int32) (v2 : Int32) (v3 : Int32) (h : Hp) : Option (Int32 × Hp) := k30 (v0, v1, v2, v3 + 1) h
set_option maxHeartbeats 4000000 in
set_option maxRecDepth 20000 in
theorem tb_m_fitting_115 {G : GG} {k30 : (Nat × Int32 × Int32 × Int32) → Hp → Option (Int32 × Hp)} (hk30 : ∀ s h, T G M_m_fitting 3 cI 30 [(0, .ref s.1), (1, .int s.2.1), (2, .int s.2.2.1), (3, .int s.2.2.2)] [] h (k30 s h)) (v0 : Nat) (v1 : Int32) (v2 : Int32) (v3 : Int32) (h : Hp) : T G M_m_fitting 3 cI 115 [(0, .ref v0), (1, .int v1), (2, .int v2), (3, .int v3)] [] h (b_m_fitting_115 k30 v0 v1 v2 v3 h) := by
  unfold b_m_fitting_115
  refine q_iinc (pc := 115) (v := (1)) (ls' := [(3, .int (v3 + 1)), (0, .ref v0), (1, .int v1), (2, .int v2)]) (dq D_m_fitting_1_ok 4 rfl) 3 rfl (by decide) rfl rfl ?_
  refine q_goto (pc := 118) 30 (dq D_m_fitting_1_ok 5 rfl) rfl ?_
  exact T.lsub [1, 2, 3, 0] rfl (hk30 (v0, v1, v2, v3 + 1) h)
noncomputable def b_m_fitting_85 (k30 : (Nat × Int32 × Int32 × Int32) → Hp → Option (Int32 × Hp)) (k85 : (Nat × Int32 × Int32 × Int32 × Int32) → Hp → Option (Int32 × Hp)) (v0 : Nat) (v1 : Int32) (v2 : Int32) (v3 : Int32) (v4 : Int32) (h : Hp) : Option (Int32 × Hp) := if 99 < v4 then (b_m_fitting_115 k30 v0 v1 v2 v3 h) else (gd (hS h v0 = some (.inl 11)) (bR (hR h v0 29) fun x1 => gd (ai h x1 0 v4) (lt (hI h x1 v4.toNatClampNeg) fun x2 => gd (hS h v0 = some (.inl 11)) (bR (hR h v0 28) fun x3 => gd (ai h x3 0 v4) (lt (hI h x3 v4.toNatClampNeg) fun x4 => gd (ai h x1 0 v4) (lt (uI h x1 v4.toNatClampNeg (x2 + x4)) fun h5 => k85 (v0, v1, v2, v3, v4 + 1) h5))))))
set_option maxHeartbeats 4000000 in
set_option maxRecDepth 20000 in
theorem tb_m_fitting_85 {G : GG} {k30 : (Nat × Int32 × Int32 × Int32) → Hp → Option (Int32 × Hp)} (hk30 : ∀ s h, T G M_m_fitting 3 cI 30 [(0, .ref s.1), (1, .int s.2.1), (2, .int s.2.2.1), (3, .int s.2.2.2)] [] h (k30 s h)) {k85 : (Nat × Int32 × Int32 × Int32 × Int32) → Hp → Option (Int32 × Hp)} (hk85 : ∀ s h, T G M_m_fitting 3 cI 85 [(0, .ref s.1), (1, .int s.2.1), (2, .int s.2.2.1), (3, .int s.2.2.2.1), (4, .int s.2.2.2.2)] [] h (k85 s h)) (v0 : Nat) (v1 : Int32) (v2 : Int32) (v3 : Int32) (v4 : Int32) (h : Hp) : T G M_m_fitting 3 cI 85 [(0, .ref v0), (1, .int v1), (2, .int v2), (3, .int v3), (4, .int v4)] [] h (b_m_fitting_85 k30 k85 v0 v1 v2 v3 v4 h) := by
  unfold b_m_fitting_85
  refine q_iload (pc := 85) (dq D_m_fitting_0_ok 48 rfl) 4 rfl ?_
  refine q_bipush (pc := 87) (v := 99) (dq D_m_fitting_0_ok 49 rfl) (by decide) ?_
  refine q_ic_gt (pc := 89) 115 (dq D_m_fitting_0_ok 50 rfl) rfl ?_ ?_
  · exact T.lsub [0, 1, 2, 3] rfl (tb_m_fitting_115 hk30 v0 v1 v2 v3 h)
  · refine q_aload_n (pc := 92) (dq D_m_fitting_0_ok 51 rfl) rfl 0 rfl ?_
    refine q_getR (pc := 93) (dq D_m_fitting_0_ok 52 rfl) fa_m_45 rfl (fun x1 => ?_)
    refine q_iload (pc := 96) (dq D_m_fitting_0_ok 53 rfl) 4 rfl ?_
    refine q_dup2 (pc := 98) (dq D_m_fitting_0_ok 54 rfl) rfl rfl ?_
    refine r_iald (pc := 99) (dq D_m_fitting_0_ok 55 rfl) (fun x2 => ?_)
    refine q_aload_n (pc := 100) (dq D_m_fitting_0_ok 56 rfl) rfl 0 rfl ?_
    refine q_getR (pc := 101) (dq D_m_fitting_0_ok 57 rfl) fa_m_42 rfl (fun x3 => ?_)
    refine q_iload (pc := 104) (dq D_m_fitting_0_ok 58 rfl) 4 rfl ?_
    refine r_iald (pc := 106) (dq D_m_fitting_0_ok 59 rfl) (fun x4 => ?_)
    refine q_iadd (pc := 107) (dq D_m_fitting_1_ok 0 rfl) ?_
    refine r_iast (pc := 108) (dq D_m_fitting_1_ok 1 rfl) (fun h5 => ?_)
    refine q_iinc (pc := 109) (v := (1)) (ls' := [(4, .int (v4 + 1)), (0, .ref v0), (1, .int v1), (2, .int v2), (3, .int v3)]) (dq D_m_fitting_1_ok 2 rfl) 4 rfl (by decide) rfl rfl ?_
    refine q_goto (pc := 112) 85 (dq D_m_fitting_1_ok 3 rfl) rfl ?_
    exact T.lsub [1, 2, 3, 4, 0] rfl (hk85 (v0, v1, v2, v3, v4 + 1) h5)
noncomputable def l_m_fitting_85 (k30 : (Nat × Int32 × Int32 × Int32) → Hp → Option (Int32 × Hp)) : Nat → (Nat × Int32 × Int32 × Int32 × Int32) → Hp → Option (Int32 × Hp) := lp (fun k85 s h => b_m_fitting_85 k30 k85 s.1 s.2.1 s.2.2.1 s.2.2.2.1 s.2.2.2.2 h)
set_option maxHeartbeats 4000000 in
set_option maxRecDepth 20000 in
theorem tl_m_fitting_85 {G : GG} {k30 : (Nat × Int32 × Int32 × Int32) → Hp → Option (Int32 × Hp)} (hk30 : ∀ s h, T G M_m_fitting 3 cI 30 [(0, .ref s.1), (1, .int s.2.1), (2, .int s.2.2.1), (3, .int s.2.2.2)] [] h (k30 s h)) (n : Nat) (s : Nat × Int32 × Int32 × Int32 × Int32) (h : Hp) : T G M_m_fitting 3 cI 85 [(0, .ref s.1), (1, .int s.2.1), (2, .int s.2.2.1), (3, .int s.2.2.2.1), (4, .int s.2.2.2.2)] [] h (l_m_fitting_85 k30 n s h) :=
  T.loop (lsOf := fun s => [(0, .ref s.1), (1, .int s.2.1), (2, .int s.2.2.1), (3, .int s.2.2.2.1), (4, .int s.2.2.2.2)]) (fun k85 hk85 s h => tb_m_fitting_85 hk30 hk85 s.1 s.2.1 s.2.2.1 s.2.2.2.1 s.2.2.2.2 h) n s h
noncomputable def b_m_fitting_72 (k30 : (Nat × Int32 × Int32 × Int32) → Hp → Option (Int32 × Hp)) (v0 : Nat) (v1 : Int32) (v2 : Int32) (v3 : Int32) (h : Hp) : Option (Int32 × Hp) := gd (hS h v0 = some (.inl 11)) (lt (hI h v0 30) fun x1 => gd (hS h v0 = some (.inl 11)) (lt (uI h v0 30 (x1 + 1)) fun h2 => lt (1 : Int32) fun y3 => l_m_fitting_85 k30 FU (v0, v1, v2, v3, y3) h2))
set_option maxHeartbeats 4000000 in
set_option maxRecDepth 20000 in
theorem tb_m_fitting_72 {G : GG} {k30 : (Nat × Int32 × Int32 × Int32) → Hp → Option (Int32 × Hp)} (hk30 : ∀ s h, T G M_m_fitting 3 cI 30 [(0, .ref s.1), (1, .int s.2.1), (2, .int s.2.2.1), (3, .int s.2.2.2)] [] h (k30 s h)) (v0 : Nat) (v1 : Int32) (v2 : Int32) (v3 : Int32) (h : Hp) : T G M_m_fitting 3 cI 72 [(0, .ref v0), (1, .int v1), (2, .int v2), (3, .int v3)] [] h (b_m_fitting_72 k30 v0 v1 v2 v3 h) := by
  unfold b_m_fitting_72
  refine q_aload_n (pc := 72) (dq D_m_fitting_0_ok 40 rfl) rfl 0 rfl ?_
  refine q_dup (pc := 73) (dq D_m_fitting_0_ok 41 rfl) rfl ?_
  refine r_getI (pc := 74) (dq D_m_fitting_0_ok 42 rfl) fa_m_449 rfl (fun x1 => ?_)
  refine q_ic1 (pc := 77) (dq D_m_fitting_0_ok 43 rfl) ?_
  refine q_iadd (pc := 78) (dq D_m_fitting_0_ok 44 rfl) ?_
  refine r_putI (pc := 79) (dq D_m_fitting_0_ok 45 rfl) fp_m_449 rfl rfl (fun h2 => ?_)
  refine q_ic1 (pc := 82) (dq D_m_fitting_0_ok 46 rfl) ?_
  refine r_nmI (fun y3 => ?_)
  refine q_istore (pc := 83) (ls' := [(4, .int y3), (0, .ref v0), (1, .int v1), (2, .int v2), (3, .int v3)]) (dq D_m_fitting_0_ok 47 rfl) rfl rfl ?_
  exact T.lsub [1, 2, 3, 4, 0] rfl (tl_m_fitting_85 hk30 FU (v0, v1, v2, v3, y3) h2)
noncomputable def b_m_fitting_30 (k30 : (Nat × Int32 × Int32 × Int32) → Hp → Option (Int32 × Hp)) (v0 : Nat) (v1 : Int32) (v2 : Int32) (v3 : Int32) (h : Hp) : Option (Int32 × Hp) := gd (hS h v0 = some (.inl 11)) (bR (hR h v0 3) fun x1 => gd (hS h x1 = some (.inl 12)) (bR (hR h x1 11) fun x2 => gd (hS h v0 = some (.inl 11)) (bR (hR h v0 3) fun x3 => gd (hS h x3 = some (.inl 12)) (lt (hI h x3 7) fun x4 => gd (ai h x2 0 x4) (lt (hI h x2 x4.toNatClampNeg) fun x5 => if x5 < v3 then (some (v2, h)) else (gd (hS h v0 = some (.inl 11)) (bd (f_m_wrong v0 v3 h) fun r7 h6 => if r7 = ((-2)) then (gd (hS h6 v0 = some (.inl 11)) (lt (hI h6 v0 30) fun x8 => if x8 = v1 then (b_m_fitting_72 k30 v0 v1 v3 v3 h6) else (b_m_fitting_72 k30 v0 v1 v2 v3 h6))) else (b_m_fitting_115 k30 v0 v1 v2 v3 h6))))))))
set_option maxHeartbeats 4000000 in
set_option maxRecDepth 20000 in
theorem tb_m_fitting_30 {G : GG} {k30 : (Nat × Int32 × Int32 × Int32) → Hp → Option (Int32 × Hp)} (hk30 : ∀ s h, T G M_m_fitting 3 cI 30 [(0, .ref s.1), (1, .int s.2.1), (2, .int s.2.2.1), (3, .int s.2.2.2)] [] h (k30 s h)) (v0 : Nat) (v1 : Int32) (v2 : Int32) (v3 : Int32) (h : Hp) : T G M_m_fitting 3 cI 30 [(0, .ref v0), (1, .int v1), (2, .int v2), (3, .int v3)] [] h (b_m_fitting_30 k30 v0 v1 v2 v3 h) := by
  unfold b_m_fitting_30
  refine q_iload_n (pc := 30) (dq D_m_fitting_0_ok 19 rfl) rfl 3 rfl ?_
  refine q_aload_n (pc := 31) (dq D_m_fitting_0_ok 20 rfl) rfl 0 rfl ?_
  refine q_getR (pc := 32) (dq D_m_fitting_0_ok 21 rfl) fa_m_348 rfl (fun x1 => ?_)
  refine q_getR (pc := 35) (dq D_m_fitting_0_ok 22 rfl) fa_m_269 rfl (fun x2 => ?_)
  refine q_aload_n (pc := 38) (dq D_m_fitting_0_ok 23 rfl) rfl 0 rfl ?_
  refine q_getR (pc := 39) (dq D_m_fitting_0_ok 24 rfl) fa_m_348 rfl (fun x3 => ?_)
  refine r_getI (pc := 42) (dq D_m_fitting_0_ok 25 rfl) fa_m_278 rfl (fun x4 => ?_)
  refine r_iald (pc := 45) (dq D_m_fitting_0_ok 26 rfl) (fun x5 => ?_)
  refine q_ic_gt (pc := 46) 121 (dq D_m_fitting_0_ok 27 rfl) rfl ?_ ?_
  · refine q_iload_n (pc := 121) (dq D_m_fitting_1_ok 6 rfl) rfl 2 rfl ?_
    exact r_reti (pc := 122) (dq D_m_fitting_1_ok 7 rfl) rfl
  · refine q_aload_n (pc := 49) (dq D_m_fitting_0_ok 28 rfl) rfl 0 rfl ?_
    refine q_iload_n (pc := 50) (dq D_m_fitting_0_ok 29 rfl) rfl 3 rfl ?_
    refine r_invI (Mc := M_m_wrong) (pc := 51) (ci := 11) (rest := []) 2 1 [.int v3] (dq D_m_fitting_0_ok 30 rfl) rfl rfl lc_m_wrong lv_m_wrong_ ml_m_452 rfl rfl rfl rfl (t_m_wrong v0 v3 h) (fun r7 h6 => ?_)
    refine q_bipush (pc := 54) (v := (-2)) (dq D_m_fitting_0_ok 31 rfl) (by decide) ?_
    refine q_ic_eq (pc := 56) 62 (dq D_m_fitting_0_ok 32 rfl) rfl ?_ ?_
    · refine q_aload_n (pc := 62) (dq D_m_fitting_0_ok 34 rfl) rfl 0 rfl ?_
      refine r_getI (pc := 63) (dq D_m_fitting_0_ok 35 rfl) fa_m_449 rfl (fun x8 => ?_)
      refine q_iload_n (pc := 66) (dq D_m_fitting_0_ok 36 rfl) rfl 1 rfl ?_
      refine q_ic_ne (pc := 67) 72 (dq D_m_fitting_0_ok 37 rfl) rfl ?_ ?_
      · exact T.lsub [0, 1, 2, 3] rfl (tb_m_fitting_72 hk30 v0 v1 v2 v3 h6)
      · refine q_iload_n (pc := 70) (dq D_m_fitting_0_ok 38 rfl) rfl 3 rfl ?_
        refine q_istore_n (pc := 71) (ls' := [(2, .int v3), (0, .ref v0), (1, .int v1), (3, .int v3)]) (dq D_m_fitting_0_ok 39 rfl) rfl rfl rfl ?_
        exact T.lsub [1, 2, 0, 3] rfl (tb_m_fitting_72 hk30 v0 v1 v3 v3 h6)
    · refine q_goto (pc := 59) 115 (dq D_m_fitting_0_ok 33 rfl) rfl ?_
      exact T.lsub [0, 1, 2, 3] rfl (tb_m_fitting_115 hk30 v0 v1 v2 v3 h6)
noncomputable def l_m_fitting_30 : Nat → (Nat × Int32 × Int32 × Int32) → Hp → Option (Int32 × Hp) := lp (fun k30 s h => b_m_fitting_30 k30 s.1 s.2.1 s.2.2.1 s.2.2.2 h)
set_option maxHeartbeats 4000000 in
set_option maxRecDepth 20000 in
theorem tl_m_fitting_30 {G : GG} (n : Nat) (s : Nat × Int32 × Int32 × Int32) (h : Hp) : T G M_m_fitting 3 cI 30 [(0, .ref s.1), (1, .int s.2.1), (2, .int s.2.2.1), (3, .int s.2.2.2)] [] h (l_m_fitting_30 n s h) :=
  T.loop (lsOf := fun s => [(0, .ref s.1), (1, .int s.2.1), (2, .int s.2.2.1), (3, .int s.2.2.2)]) (fun k30 hk30 s h => tb_m_fitting_30 hk30 s.1 s.2.1 s.2.2.1 s.2.2.2 h) n s h
noncomputable def b_m_fitting_9 (k9 : (Nat × Int32 × Int32 × Int32) → Hp → Option (Int32 × Hp)) (v0 : Nat) (v1 : Int32) (v2 : Int32) (v3 : Int32) (h : Hp) : Option (Int32 × Hp) := if 99 < v3 then (lt (0 : Int32) fun y1 => l_m_fitting_30 FU (v0, v1, v2, y1) h) else (gd (hS h v0 = some (.inl 11)) (bR (hR h v0 29) fun x2 => gd (ai h x2 0 v3) (lt (uI h x2 v3.toNatClampNeg 0) fun h3 => k9 (v0, v1, v2, v3 + 1) h3)))
set_option maxHeartbeats 4000000 in
set_option maxRecDepth 20000 in
theorem tb_m_fitting_9 {G : GG} {k9 : (Nat × Int32 × Int32 × Int32) → Hp → Option (Int32 × Hp)} (hk9 : ∀ s h, T G M_m_fitting 3 cI 9 [(0, .ref s.1), (1, .int s.2.1), (2, .int s.2.2.1), (3, .int s.2.2.2)] [] h (k9 s h)) (v0 : Nat) (v1 : Int32) (v2 : Int32) (v3 : Int32) (h : Hp) : T G M_m_fitting 3 cI 9 [(0, .ref v0), (1, .int v1), (2, .int v2), (3, .int v3)] [] h (b_m_fitting_9 k9 v0 v1 v2 v3 h) := by
  unfold b_m_fitting_9
  refine q_iload_n (pc := 9) (dq D_m_fitting_0_ok 7 rfl) rfl 3 rfl ?_
  refine q_bipush (pc := 10) (v := 99) (dq D_m_fitting_0_ok 8 rfl) (by decide) ?_
  refine q_ic_gt (pc := 12) 28 (dq D_m_fitting_0_ok 9 rfl) rfl ?_ ?_
  · refine q_ic0 (pc := 28) (dq D_m_fitting_0_ok 17 rfl) ?_
    refine r_nmI (fun y1 => ?_)
    refine q_istore_n (pc := 29) (ls' := [(3, .int y1), (0, .ref v0), (1, .int v1), (2, .int v2)]) (dq D_m_fitting_0_ok 18 rfl) rfl rfl rfl ?_
    exact T.lsub [1, 2, 3, 0] rfl (tl_m_fitting_30 FU (v0, v1, v2, y1) h)
  · refine q_aload_n (pc := 15) (dq D_m_fitting_0_ok 10 rfl) rfl 0 rfl ?_
    refine q_getR (pc := 16) (dq D_m_fitting_0_ok 11 rfl) fa_m_45 rfl (fun x2 => ?_)
    refine q_iload_n (pc := 19) (dq D_m_fitting_0_ok 12 rfl) rfl 3 rfl ?_
    refine q_ic0 (pc := 20) (dq D_m_fitting_0_ok 13 rfl) ?_
    refine r_iast (pc := 21) (dq D_m_fitting_0_ok 14 rfl) (fun h3 => ?_)
    refine q_iinc (pc := 22) (v := (1)) (ls' := [(3, .int (v3 + 1)), (0, .ref v0), (1, .int v1), (2, .int v2)]) (dq D_m_fitting_0_ok 15 rfl) 3 rfl (by decide) rfl rfl ?_
    refine q_goto (pc := 25) 9 (dq D_m_fitting_0_ok 16 rfl) rfl ?_
    exact T.lsub [1, 2, 3, 0] rfl (hk9 (v0, v1, v2, v3 + 1) h3)
noncomputable def l_m_fitting_9 : Nat → (Nat × Int32 × Int32 × Int32) → Hp → Option (Int32 × Hp) := lp (fun k9 s h => b_m_fitting_9 k9 s.1 s.2.1 s.2.2.1 s.2.2.2 h)
set_option maxHeartbeats 4000000 in
set_option maxRecDepth 20000 in
theorem tl_m_fitting_9 {G : GG} (n : Nat) (s : Nat × Int32 × Int32 × Int32) (h : Hp) : T G M_m_fitting 3 cI 9 [(0, .ref s.1), (1, .int s.2.1), (2, .int s.2.2.1), (3, .int s.2.2.2)] [] h (l_m_fitting_9 n s h) :=
  T.loop (lsOf := fun s => [(0, .ref s.1), (1, .int s.2.1), (2, .int s.2.2.1), (3, .int s.2.2.2)]) (fun k9 hk9 s h => tb_m_fitting_9 hk9 s.1 s.2.1 s.2.2.1 s.2.2.2 h) n s h
noncomputable def f_m_fitting (v0 : Nat) (v1 : Int32) (h : Hp) : Option (Int32 × Hp) := gd (hS h v0 = some (.inl 11)) (lt (uI h v0 30 0) fun h1 => lt ((-1) : Int32) fun y2 => lt (0 : Int32) fun y3 => l_m_fitting_9 FU (v0, v1, y2, y3) h1)
set_option maxHeartbeats 4000000 in
set_option maxRecDepth 20000 in
theorem t_m_fitting {G : GG} (v0 : Nat) (v1 : Int32) (h : Hp) : Mt G M_m_fitting 3 [.ref v0, .int v1] cI h (f_m_fitting v0 v1 h) := by
  refine Mt.ofF (by decide +kernel) rfl (Rt.i rfl rfl) ?_
  show T G M_m_fitting 3 cI 0 [(0, .ref v0), (1, .int v1)] [] h _
  unfold f_m_fitting
  refine q_aload_n (pc := 0) (dq D_m_fitting_0_ok 0 rfl) rfl 0 rfl ?_
  refine q_ic0 (pc := 1) (dq D_m_fitting_0_ok 1 rfl) ?_
  refine r_putI (pc := 2) (dq D_m_fitting_0_ok 2 rfl) fp_m_449 rfl rfl (fun h1 => ?_)
  refine q_icm1 (pc := 5) (dq D_m_fitting_0_ok 3 rfl) ?_
  refine r_nmI (fun y2 => ?_)
  refine q_istore_n (pc := 6) (ls' := [(2, .int y2), (0, .ref v0), (1, .int v1)]) (dq D_m_fitting_0_ok 4 rfl) rfl rfl rfl ?_
  refine q_ic0 (pc := 7) (dq D_m_fitting_0_ok 5 rfl) ?_
  refine r_nmI (fun y3 => ?_)
  refine q_istore_n (pc := 8) (ls' := [(3, .int y3), (2, .int y2), (0, .ref v0), (1, .int v1)]) (dq D_m_fitting_0_ok 6 rfl) rfl rfl rfl ?_
  exact T.lsub [2, 3, 1, 0] rfl (tl_m_fitting_9 FU (v0, v1, y2, y3) h1)
noncomputable def f_m_refusesSuspect (v0 : Nat) (h : Hp) : Option (Int32 × Hp) := gd (hS h v0 = some (.inl 11)) (if hR h v0 3 = none then (some (1, h)) else (gd (hS h v0 = some (.inl 11)) (bR (hR h v0 3) fun x2 => gd (hS h x2 = some (.inl 12)) (lt (hI h x2 7) fun x3 => if x3 = ((-1)) then (some (6, h)) else (some (0, h))))))
set_option maxHeartbeats 4000000 in
set_option maxRecDepth 20000 in
theorem t_m_refusesSuspect {G : GG} (v0 : Nat) (h : Hp) : Mt G M_m_refusesSuspect 0 [.ref v0] cI h (f_m_refusesSuspect v0 h) := by
  refine Mt.ofF (by decide +kernel) rfl (Rt.i rfl rfl) ?_
  show T G M_m_refusesSuspect 0 cI 0 [(0, .ref v0)] [] h _
  unfold f_m_refusesSuspect
  refine q_aload_n (pc := 0) (dq D_m_refusesSuspect_0_ok 0 rfl) rfl 0 rfl ?_
  refine q_getnn (pc := 1) 11 (dq D_m_refusesSuspect_0_ok 1 rfl) (dq D_m_refusesSuspect_0_ok 2 rfl) rfl fa_m_348 rfl ?_ ?_
  · refine q_aload_n (pc := 11) (dq D_m_refusesSuspect_0_ok 5 rfl) rfl 0 rfl ?_
    refine q_getR (pc := 12) (dq D_m_refusesSuspect_0_ok 6 rfl) fa_m_348 rfl (fun x2 => ?_)
    refine r_getI (pc := 15) (dq D_m_refusesSuspect_0_ok 7 rfl) fa_m_278 rfl (fun x3 => ?_)
    refine q_icm1 (pc := 18) (dq D_m_refusesSuspect_0_ok 8 rfl) ?_
    refine q_ic_ne (pc := 19) 27 (dq D_m_refusesSuspect_0_ok 9 rfl) rfl ?_ ?_
    · refine q_ic0 (pc := 27) (dq D_m_refusesSuspect_0_ok 12 rfl) ?_
      exact r_reti (pc := 28) (dq D_m_refusesSuspect_0_ok 13 rfl) rfl
    · refine q_bipush (pc := 22) (v := 6) (dq D_m_refusesSuspect_0_ok 10 rfl) (by decide) ?_
      refine q_goto (pc := 24) 28 (dq D_m_refusesSuspect_0_ok 11 rfl) rfl ?_
      exact r_reti (pc := 28) (dq D_m_refusesSuspect_0_ok 13 rfl) rfl
  · refine q_ic1 (pc := 7) (dq D_m_refusesSuspect_0_ok 3 rfl) ?_
    refine q_goto (pc := 8) 28 (dq D_m_refusesSuspect_0_ok 4 rfl) rfl ?_
    exact r_reti (pc := 28) (dq D_m_refusesSuspect_0_ok 13 rfl) rfl
noncomputable def f_m_fits (v0 : Nat) (h : Hp) : Option (Int32 × Hp) := gd (hS h v0 = some (.inl 11)) (lt (uI h v0 0 0) fun h1 => gd (hS h1 v0 = some (.inl 11)) (bd (f_m_refusesSuspect v0 h1) fun r3 h2 => if r3 ≤ 0 then (gd (hS h2 v0 = some (.inl 11)) (bd (f_m_fitting v0 ((-1)) h2) fun r5 h4 => gd (hS h4 v0 = some (.inl 11)) (lt (hI h4 v0 30) fun x6 => gd (hS h4 v0 = some (.inl 11)) (bd (f_m_good v0 x6 h4) fun r8 h7 => some (r8, h7))))) else (gd (hS h2 v0 = some (.inl 11)) (bd (f_m_refused v0 r3 h2) fun r10 h9 => some (r10, h9)))))
set_option maxHeartbeats 4000000 in
set_option maxRecDepth 20000 in
theorem t_m_fits {G : GG} (v0 : Nat) (h : Hp) : Mt G M_m_fits 4 [.ref v0] cI h (f_m_fits v0 h) := by
  refine Mt.ofF (by decide +kernel) rfl (Rt.i rfl rfl) ?_
  show T G M_m_fits 4 cI 0 [(0, .ref v0)] [] h _
  unfold f_m_fits
  refine q_aload_n (pc := 0) (dq D_m_fits_0_ok 0 rfl) rfl 0 rfl ?_
  refine q_ic0 (pc := 1) (dq D_m_fits_0_ok 1 rfl) ?_
  refine r_putI (pc := 2) (dq D_m_fits_0_ok 2 rfl) fp_m_54 rfl rfl (fun h1 => ?_)
  refine q_aload_n (pc := 5) (dq D_m_fits_0_ok 3 rfl) rfl 0 rfl ?_
  refine r_invI (Mc := M_m_refusesSuspect) (pc := 6) (ci := 11) (rest := []) 0 0 [] (dq D_m_fits_0_ok 4 rfl) rfl rfl lc_m_refusesSuspect lv_m_refusesSuspect_ ml_m_455 rfl rfl rfl rfl (t_m_refusesSuspect v0 h1) (fun r3 h2 => ?_)
  refine q_istore_n (pc := 9) (ls' := [(1, .int r3), (0, .ref v0)]) (dq D_m_fits_0_ok 5 rfl) rfl rfl rfl ?_
  refine q_iload_n (pc := 10) (dq D_m_fits_0_ok 6 rfl) rfl 0 rfl ?_
  refine p_if_le (pc := 11) 20 (dq D_m_fits_0_ok 7 rfl) rfl ?_ ?_
  · refine q_aload_n (pc := 20) (dq D_m_fits_0_ok 12 rfl) rfl 1 rfl ?_
    refine q_icm1 (pc := 21) (dq D_m_fits_0_ok 13 rfl) ?_
    refine r_invI (Mc := M_m_fitting) (pc := 22) (ci := 11) (rest := []) 3 1 [.int ((-1))] (dq D_m_fits_0_ok 14 rfl) rfl rfl lc_m_fitting lv_m_fitting_ ml_m_458 rfl rfl rfl rfl (t_m_fitting v0 ((-1)) h2) (fun r5 h4 => ?_)
    refine q_pop (pc := 25) (dq D_m_fits_0_ok 15 rfl) rfl ?_
    refine q_aload_n (pc := 26) (dq D_m_fits_0_ok 16 rfl) rfl 1 rfl ?_
    refine q_aload_n (pc := 27) (dq D_m_fits_0_ok 17 rfl) rfl 1 rfl ?_
    refine r_getI (pc := 28) (dq D_m_fits_0_ok 18 rfl) fa_m_449 rfl (fun x6 => ?_)
    refine r_invI (Mc := M_m_good) (pc := 31) (ci := 11) (rest := []) 0 1 [.int x6] (dq D_m_fits_0_ok 19 rfl) rfl rfl lc_m_good lv_m_good_ ml_m_64 rfl rfl rfl rfl (t_m_good v0 x6 h4) (fun r8 h7 => ?_)
    exact r_reti (pc := 34) (dq D_m_fits_0_ok 20 rfl) rfl
  · refine q_aload_n (pc := 14) (dq D_m_fits_0_ok 8 rfl) rfl 1 rfl ?_
    refine q_iload_n (pc := 15) (dq D_m_fits_0_ok 9 rfl) rfl 0 rfl ?_
    refine r_invI (Mc := M_m_refused) (pc := 16) (ci := 11) (rest := []) 0 1 [.int r3] (dq D_m_fits_0_ok 10 rfl) rfl rfl lc_m_refused lv_m_refused_ ml_m_60 rfl rfl rfl rfl (t_m_refused v0 r3 h2) (fun r10 h9 => ?_)
    exact r_reti (pc := 19) (dq D_m_fits_0_ok 11 rfl) rfl
noncomputable def b_m_fitAt_71 (s0 : Int32) (s1 : Nat) (h : Hp) : Option (Int32 × Hp) := gd (hS h s1 = some (.inl 11)) (bd (f_m_good s1 s0 h) fun r2 h1 => some (r2, h1))
set_option maxHeartbeats 4000000 in
set_option maxRecDepth 20000 in
theorem tb_m_fitAt_71 {G : GG} (s0 : Int32) (s1 : Nat) (h : Hp) : T G M_m_fitAt 4 cI 71 [] [.int s0, .ref s1] h (b_m_fitAt_71 s0 s1 h) := by
  unfold b_m_fitAt_71
  refine r_invI (Mc := M_m_good) (pc := 71) (ci := 11) (rest := []) 0 1 [.int s0] (dq D_m_fitAt_0_ok 40 rfl) rfl rfl lc_m_good lv_m_good_ ml_m_64 rfl rfl rfl rfl (t_m_good s1 s0 h) (fun r2 h1 => ?_)
  exact r_reti (pc := 74) (dq D_m_fitAt_0_ok 41 rfl) rfl
noncomputable def b_m_fitAt_33 (v0 : Nat) (s0 : Int32) (h : Hp) : Option (Int32 × Hp) := if s0 = ((-1)) then (gd (hS h v0 = some (.inl 11)) (bd (f_m_refused v0 (1 : Int32) h) fun r7 h6 => some (r7, h6))) else (gd (hS h v0 = some (.inl 11)) (bR (hR h v0 3) fun x1 => gd (hS h x1 = some (.inl 12)) (bR (hR h x1 11) fun x2 => gd (hS h v0 = some (.inl 11)) (bR (hR h v0 3) fun x3 => gd (hS h x3 = some (.inl 12)) (lt (hI h x3 7) fun x4 => gd (ai h x2 0 x4) (lt (hI h x2 x4.toNatClampNeg) fun x5 => if s0 = x5 then (b_m_fitAt_71 ((-2)) v0 h) else (b_m_fitAt_71 s0 v0 h)))))))
set_option maxHeartbeats 4000000 in
set_option maxRecDepth 20000 in
theorem tb_m_fitAt_33 {G : GG} (v0 : Nat) (s0 : Int32) (h : Hp) : T G M_m_fitAt 4 cI 33 [(0, .ref v0)] [.int s0] h (b_m_fitAt_33 v0 s0 h) := by
  unfold b_m_fitAt_33
  refine q_istore_n (pc := 33) (ls' := [(3, .int s0), (0, .ref v0)]) (dq D_m_fitAt_0_ok 19 rfl) rfl rfl rfl ?_
  refine q_iload_n (pc := 34) (dq D_m_fitAt_0_ok 20 rfl) rfl 0 rfl ?_
  refine q_icm1 (pc := 35) (dq D_m_fitAt_0_ok 21 rfl) ?_
  refine q_ic_ne (pc := 36) 45 (dq D_m_fitAt_0_ok 22 rfl) rfl ?_ ?_
  · refine q_aload_n (pc := 45) (dq D_m_fitAt_0_ok 27 rfl) rfl 1 rfl ?_
    refine q_iload_n (pc := 46) (dq D_m_fitAt_0_ok 28 rfl) rfl 0 rfl ?_
    refine q_aload_n (pc := 47) (dq D_m_fitAt_0_ok 29 rfl) rfl 1 rfl ?_
    refine q_getR (pc := 48) (dq D_m_fitAt_0_ok 30 rfl) fa_m_348 rfl (fun x1 => ?_)
    refine q_getR (pc := 51) (dq D_m_fitAt_0_ok 31 rfl) fa_m_269 rfl (fun x2 => ?_)
    refine q_aload_n (pc := 54) (dq D_m_fitAt_0_ok 32 rfl) rfl 1 rfl ?_
    refine q_getR (pc := 55) (dq D_m_fitAt_0_ok 33 rfl) fa_m_348 rfl (fun x3 => ?_)
    refine r_getI (pc := 58) (dq D_m_fitAt_0_ok 34 rfl) fa_m_278 rfl (fun x4 => ?_)
    refine r_iald (pc := 61) (dq D_m_fitAt_0_ok 35 rfl) (fun x5 => ?_)
    refine q_ic_ne (pc := 62) 70 (dq D_m_fitAt_0_ok 36 rfl) rfl ?_ ?_
    · refine q_iload_n (pc := 70) (dq D_m_fitAt_0_ok 39 rfl) rfl 0 rfl ?_
      exact T.lsub [] rfl (tb_m_fitAt_71 s0 v0 h)
    · refine q_bipush (pc := 65) (v := (-2)) (dq D_m_fitAt_0_ok 37 rfl) (by decide) ?_
      refine q_goto (pc := 67) 71 (dq D_m_fitAt_0_ok 38 rfl) rfl ?_
      exact T.lsub [] rfl (tb_m_fitAt_71 ((-2)) v0 h)
  · refine q_aload_n (pc := 39) (dq D_m_fitAt_0_ok 23 rfl) rfl 1 rfl ?_
    refine q_ic1 (pc := 40) (dq D_m_fitAt_0_ok 24 rfl) ?_
    refine r_invI (Mc := M_m_refused) (pc := 41) (ci := 11) (rest := []) 0 1 [.int 1] (dq D_m_fitAt_0_ok 25 rfl) rfl rfl lc_m_refused lv_m_refused_ ml_m_60 rfl rfl rfl rfl (t_m_refused v0 (1 : Int32) h) (fun r7 h6 => ?_)
    exact r_reti (pc := 44) (dq D_m_fitAt_0_ok 26 rfl) rfl
noncomputable def f_m_fitAt (v0 : Nat) (v1 : Int32) (h : Hp) : Option (Int32 × Hp) := gd (hS h v0 = some (.inl 11)) (lt (uI h v0 0 0) fun h1 => gd (hS h1 v0 = some (.inl 11)) (bd (f_m_refusesSuspect v0 h1) fun r3 h2 => if r3 ≤ 0 then (if 0 ≤ v1 then (gd (hS h2 v0 = some (.inl 11)) (bd (f_m_fitting v0 v1 h2) fun r5 h4 => b_m_fitAt_33 v0 r5 h4)) else (b_m_fitAt_33 v0 ((-1)) h2)) else (gd (hS h2 v0 = some (.inl 11)) (bd (f_m_refused v0 r3 h2) fun r7 h6 => some (r7, h6)))))
set_option maxHeartbeats 4000000 in
set_option maxRecDepth 20000 in
theorem t_m_fitAt {G : GG} (v0 : Nat) (v1 : Int32) (h : Hp) : Mt G M_m_fitAt 4 [.ref v0, .int v1] cI h (f_m_fitAt v0 v1 h) := by
  refine Mt.ofF (by decide +kernel) rfl (Rt.i rfl rfl) ?_
  show T G M_m_fitAt 4 cI 0 [(0, .ref v0), (1, .int v1)] [] h _
  unfold f_m_fitAt
  refine q_aload_n (pc := 0) (dq D_m_fitAt_0_ok 0 rfl) rfl 0 rfl ?_
  refine q_ic0 (pc := 1) (dq D_m_fitAt_0_ok 1 rfl) ?_
  refine r_putI (pc := 2) (dq D_m_fitAt_0_ok 2 rfl) fp_m_54 rfl rfl (fun h1 => ?_)
  refine q_aload_n (pc := 5) (dq D_m_fitAt_0_ok 3 rfl) rfl 0 rfl ?_
  refine r_invI (Mc := M_m_refusesSuspect) (pc := 6) (ci := 11) (rest := []) 0 0 [] (dq D_m_fitAt_0_ok 4 rfl) rfl rfl lc_m_refusesSuspect lv_m_refusesSuspect_ ml_m_455 rfl rfl rfl rfl (t_m_refusesSuspect v0 h1) (fun r3 h2 => ?_)
  refine q_istore_n (pc := 9) (ls' := [(2, .int r3), (0, .ref v0), (1, .int v1)]) (dq D_m_fitAt_0_ok 5 rfl) rfl rfl rfl ?_
  refine q_iload_n (pc := 10) (dq D_m_fitAt_0_ok 6 rfl) rfl 0 rfl ?_
  refine p_if_le (pc := 11) 20 (dq D_m_fitAt_0_ok 7 rfl) rfl ?_ ?_
  · refine q_iload_n (pc := 20) (dq D_m_fitAt_0_ok 12 rfl) rfl 2 rfl ?_
    refine p_if_ge (pc := 21) 28 (dq D_m_fitAt_0_ok 13 rfl) rfl ?_ ?_
    · refine q_aload_n (pc := 28) (dq D_m_fitAt_0_ok 16 rfl) rfl 1 rfl ?_
      refine q_iload_n (pc := 29) (dq D_m_fitAt_0_ok 17 rfl) rfl 2 rfl ?_
      refine r_invI (Mc := M_m_fitting) (pc := 30) (ci := 11) (rest := []) 3 1 [.int v1] (dq D_m_fitAt_0_ok 18 rfl) rfl rfl lc_m_fitting lv_m_fitting_ ml_m_458 rfl rfl rfl rfl (t_m_fitting v0 v1 h2) (fun r5 h4 => ?_)
      exact T.lsub [1] rfl (tb_m_fitAt_33 v0 r5 h4)
    · refine q_icm1 (pc := 24) (dq D_m_fitAt_0_ok 14 rfl) ?_
      refine q_goto (pc := 25) 33 (dq D_m_fitAt_0_ok 15 rfl) rfl ?_
      exact T.lsub [1] rfl (tb_m_fitAt_33 v0 ((-1)) h2)
  · refine q_aload_n (pc := 14) (dq D_m_fitAt_0_ok 8 rfl) rfl 1 rfl ?_
    refine q_iload_n (pc := 15) (dq D_m_fitAt_0_ok 9 rfl) rfl 0 rfl ?_
    refine r_invI (Mc := M_m_refused) (pc := 16) (ci := 11) (rest := []) 0 1 [.int r3] (dq D_m_fitAt_0_ok 10 rfl) rfl rfl lc_m_refused lv_m_refused_ ml_m_60 rfl rfl rfl rfl (t_m_refused v0 r3 h2) (fun r7 h6 => ?_)
    exact r_reti (pc := 19) (dq D_m_fitAt_0_ok 11 rfl) rfl
noncomputable def b_m_looks_95 (k17 : (Nat × Int32 × Int32) → Hp → Option (Int32 × Hp)) (v0 : Nat) (v1 : Int32) (v2 : Int32) (h : Hp) : Option (Int32 × Hp) := k17 (v0, v1, v2 + 1) h
set_option maxHeartbeats 4000000 in
set_option maxRecDepth 20000 in
theorem tb_m_looks_95 {G : GG} {k17 : (Nat × Int32 × Int32) → Hp → Option (Int32 × Hp)} (hk17 : ∀ s h, T G M_m_looks 4 cI 17 [(0, .ref s.1), (1, .int s.2.1), (2, .int s.2.2)] [] h (k17 s h)) (v0 : Nat) (v1 : Int32) (v2 : Int32) (h : Hp) : T G M_m_looks 4 cI 95 [(0, .ref v0), (1, .int v1), (2, .int v2)] [] h (b_m_looks_95 k17 v0 v1 v2 h) := by
  unfold b_m_looks_95
  refine q_iinc (pc := 95) (v := (1)) (ls' := [(2, .int (v2 + 1)), (0, .ref v0), (1, .int v1)]) (dq D_m_looks_0_ok 55 rfl) 2 rfl (by decide) rfl rfl ?_
  refine q_goto (pc := 98) 17 (dq D_m_looks_0_ok 56 rfl) rfl ?_
  exact T.lsub [1, 2, 0] rfl (hk17 (v0, v1, v2 + 1) h)
noncomputable def b_m_looks_88 (k17 : (Nat × Int32 × Int32) → Hp → Option (Int32 × Hp)) (v0 : Nat) (v2 : Int32) (v3 : Int32) (h : Hp) : Option (Int32 × Hp) := gd (hS h v0 = some (.inl 11)) (lt (uI h v0 31 v3) fun h1 => b_m_looks_95 k17 v0 v2 v2 h1)
set_option maxHeartbeats 4000000 in
set_option maxRecDepth 20000 in
theorem tb_m_looks_88 {G : GG} {k17 : (Nat × Int32 × Int32) → Hp → Option (Int32 × Hp)} (hk17 : ∀ s h, T G M_m_looks 4 cI 17 [(0, .ref s.1), (1, .int s.2.1), (2, .int s.2.2)] [] h (k17 s h)) (v0 : Nat) (v2 : Int32) (v3 : Int32) (h : Hp) : T G M_m_looks 4 cI 88 [(0, .ref v0), (2, .int v2), (3, .int v3)] [] h (b_m_looks_88 k17 v0 v2 v3 h) := by
  unfold b_m_looks_88
  refine q_iload_n (pc := 88) (dq D_m_looks_0_ok 50 rfl) rfl 1 rfl ?_
  refine q_istore_n (pc := 89) (ls' := [(1, .int v2), (0, .ref v0), (2, .int v2), (3, .int v3)]) (dq D_m_looks_0_ok 51 rfl) rfl rfl rfl ?_
  refine q_aload_n (pc := 90) (dq D_m_looks_0_ok 52 rfl) rfl 1 rfl ?_
  refine q_iload_n (pc := 91) (dq D_m_looks_0_ok 53 rfl) rfl 3 rfl ?_
  refine r_putI (pc := 92) (dq D_m_looks_0_ok 54 rfl) fp_m_461 rfl rfl (fun h1 => ?_)
  exact T.lsub [1, 0, 2] rfl (tb_m_looks_95 hk17 v0 v2 v2 h1)
noncomputable def b_m_looks_70 (k17 : (Nat × Int32 × Int32) → Hp → Option (Int32 × Hp)) (v0 : Nat) (v1 : Int32) (v2 : Int32) (s0 : Int32) (h : Hp) : Option (Int32 × Hp) := if v1 = ((-2)) then (b_m_looks_88 k17 v0 v2 s0 h) else (gd (hS h v0 = some (.inl 11)) (lt (hI h v0 31) fun x1 => if s0 < x1 then (b_m_looks_88 k17 v0 v2 s0 h) else (b_m_looks_95 k17 v0 v1 v2 h)))
set_option maxHeartbeats 4000000 in
set_option maxRecDepth 20000 in
theorem tb_m_looks_70 {G : GG} {k17 : (Nat × Int32 × Int32) → Hp → Option (Int32 × Hp)} (hk17 : ∀ s h, T G M_m_looks 4 cI 17 [(0, .ref s.1), (1, .int s.2.1), (2, .int s.2.2)] [] h (k17 s h)) (v0 : Nat) (v1 : Int32) (v2 : Int32) (s0 : Int32) (h : Hp) : T G M_m_looks 4 cI 70 [(0, .ref v0), (1, .int v1), (2, .int v2)] [.int s0] h (b_m_looks_70 k17 v0 v1 v2 s0 h) := by
  unfold b_m_looks_70
  refine q_istore_n (pc := 70) (ls' := [(3, .int s0), (0, .ref v0), (1, .int v1), (2, .int v2)]) (dq D_m_looks_0_ok 41 rfl) rfl rfl rfl ?_
  refine q_iload_n (pc := 71) (dq D_m_looks_0_ok 42 rfl) rfl 2 rfl ?_
  refine q_bipush (pc := 72) (v := (-2)) (dq D_m_looks_0_ok 43 rfl) (by decide) ?_
  refine q_ic_eq (pc := 74) 88 (dq D_m_looks_0_ok 44 rfl) rfl ?_ ?_
  · exact T.lsub [1, 3, 0] rfl (tb_m_looks_88 hk17 v0 v2 s0 h)
  · refine q_iload_n (pc := 77) (dq D_m_looks_0_ok 45 rfl) rfl 0 rfl ?_
    refine q_aload_n (pc := 78) (dq D_m_looks_0_ok 46 rfl) rfl 1 rfl ?_
    refine r_getI (pc := 79) (dq D_m_looks_0_ok 47 rfl) fa_m_461 rfl (fun x1 => ?_)
    refine q_ic_lt (pc := 82) 88 (dq D_m_looks_0_ok 48 rfl) rfl ?_ ?_
    · exact T.lsub [1, 3, 0] rfl (tb_m_looks_88 hk17 v0 v2 s0 h)
    · refine q_goto (pc := 85) 95 (dq D_m_looks_0_ok 49 rfl) rfl ?_
      exact T.lsub [1, 2, 3] rfl (tb_m_looks_95 hk17 v0 v1 v2 h)
noncomputable def b_m_looks_17 (k17 : (Nat × Int32 × Int32) → Hp → Option (Int32 × Hp)) (v0 : Nat) (v1 : Int32) (v2 : Int32) (h : Hp) : Option (Int32 × Hp) := if 99 < v2 then (some (v1, h)) else (gd (hS h v0 = some (.inl 11)) (lt (hI h v0 30) fun x1 => if x1 ≤ 0 then (some (v1, h)) else (gd (hS h v0 = some (.inl 11)) (bR (hR h v0 29) fun x2 => gd (ai h x2 0 v2) (lt (hI h x2 v2.toNatClampNeg) fun x3 => gd (hS h v0 = some (.inl 11)) (lt (hI h v0 30) fun x4 => gd (hS h v0 = some (.inl 11)) (bR (hR h v0 29) fun x5 => gd (ai h x5 0 v2) (lt (hI h x5 v2.toNatClampNeg) fun x6 => if x3 ≤ (x4 - x6) then (gd (hS h v0 = some (.inl 11)) (lt (hI h v0 30) fun x7 => gd (hS h v0 = some (.inl 11)) (bR (hR h v0 29) fun x8 => gd (ai h x8 0 v2) (lt (hI h x8 v2.toNatClampNeg) fun x9 => b_m_looks_70 k17 v0 v1 v2 (x7 - x9) h)))) else (gd (hS h v0 = some (.inl 11)) (bR (hR h v0 29) fun x10 => gd (ai h x10 0 v2) (lt (hI h x10 v2.toNatClampNeg) fun x11 => b_m_looks_70 k17 v0 v1 v2 x11 h)))))))))))
set_option maxHeartbeats 4000000 in
set_option maxRecDepth 20000 in
theorem tb_m_looks_17 {G : GG} {k17 : (Nat × Int32 × Int32) → Hp → Option (Int32 × Hp)} (hk17 : ∀ s h, T G M_m_looks 4 cI 17 [(0, .ref s.1), (1, .int s.2.1), (2, .int s.2.2)] [] h (k17 s h)) (v0 : Nat) (v1 : Int32) (v2 : Int32) (h : Hp) : T G M_m_looks 4 cI 17 [(0, .ref v0), (1, .int v1), (2, .int v2)] [] h (b_m_looks_17 k17 v0 v1 v2 h) := by
  unfold b_m_looks_17
  refine q_iload_n (pc := 17) (dq D_m_looks_0_ok 11 rfl) rfl 2 rfl ?_
  refine q_bipush (pc := 18) (v := 99) (dq D_m_looks_0_ok 12 rfl) (by decide) ?_
  refine q_ic_gt (pc := 20) 101 (dq D_m_looks_0_ok 13 rfl) rfl ?_ ?_
  · refine q_iload_n (pc := 101) (dq D_m_looks_0_ok 57 rfl) rfl 1 rfl ?_
    exact r_reti (pc := 102) (dq D_m_looks_0_ok 58 rfl) rfl
  · refine q_aload_n (pc := 23) (dq D_m_looks_0_ok 14 rfl) rfl 0 rfl ?_
    refine r_getI (pc := 24) (dq D_m_looks_0_ok 15 rfl) fa_m_449 rfl (fun x1 => ?_)
    refine p_if_le (pc := 27) 101 (dq D_m_looks_0_ok 16 rfl) rfl ?_ ?_
    · refine q_iload_n (pc := 101) (dq D_m_looks_0_ok 57 rfl) rfl 1 rfl ?_
      exact r_reti (pc := 102) (dq D_m_looks_0_ok 58 rfl) rfl
    · refine q_aload_n (pc := 30) (dq D_m_looks_0_ok 17 rfl) rfl 0 rfl ?_
      refine q_getR (pc := 31) (dq D_m_looks_0_ok 18 rfl) fa_m_45 rfl (fun x2 => ?_)
      refine q_iload_n (pc := 34) (dq D_m_looks_0_ok 19 rfl) rfl 2 rfl ?_
      refine r_iald (pc := 35) (dq D_m_looks_0_ok 20 rfl) (fun x3 => ?_)
      refine q_aload_n (pc := 36) (dq D_m_looks_0_ok 21 rfl) rfl 0 rfl ?_
      refine r_getI (pc := 37) (dq D_m_looks_0_ok 22 rfl) fa_m_449 rfl (fun x4 => ?_)
      refine q_aload_n (pc := 40) (dq D_m_looks_0_ok 23 rfl) rfl 0 rfl ?_
      refine q_getR (pc := 41) (dq D_m_looks_0_ok 24 rfl) fa_m_45 rfl (fun x5 => ?_)
      refine q_iload_n (pc := 44) (dq D_m_looks_0_ok 25 rfl) rfl 2 rfl ?_
      refine r_iald (pc := 45) (dq D_m_looks_0_ok 26 rfl) (fun x6 => ?_)
      refine q_isub (pc := 46) (dq D_m_looks_0_ok 27 rfl) ?_
      refine q_ic_le (pc := 47) 59 (dq D_m_looks_0_ok 28 rfl) rfl ?_ ?_
      · refine q_aload_n (pc := 59) (dq D_m_looks_0_ok 34 rfl) rfl 0 rfl ?_
        refine r_getI (pc := 60) (dq D_m_looks_0_ok 35 rfl) fa_m_449 rfl (fun x7 => ?_)
        refine q_aload_n (pc := 63) (dq D_m_looks_0_ok 36 rfl) rfl 0 rfl ?_
        refine q_getR (pc := 64) (dq D_m_looks_0_ok 37 rfl) fa_m_45 rfl (fun x8 => ?_)
        refine q_iload_n (pc := 67) (dq D_m_looks_0_ok 38 rfl) rfl 2 rfl ?_
        refine r_iald (pc := 68) (dq D_m_looks_0_ok 39 rfl) (fun x9 => ?_)
        refine q_isub (pc := 69) (dq D_m_looks_0_ok 40 rfl) ?_
        exact T.lsub [0, 1, 2] rfl (tb_m_looks_70 hk17 v0 v1 v2 (x7 - x9) h)
      · refine q_aload_n (pc := 50) (dq D_m_looks_0_ok 29 rfl) rfl 0 rfl ?_
        refine q_getR (pc := 51) (dq D_m_looks_0_ok 30 rfl) fa_m_45 rfl (fun x10 => ?_)
        refine q_iload_n (pc := 54) (dq D_m_looks_0_ok 31 rfl) rfl 2 rfl ?_
        refine r_iald (pc := 55) (dq D_m_looks_0_ok 32 rfl) (fun x11 => ?_)
        refine q_goto (pc := 56) 70 (dq D_m_looks_0_ok 33 rfl) rfl ?_
        exact T.lsub [0, 1, 2] rfl (tb_m_looks_70 hk17 v0 v1 v2 x11 h)
noncomputable def l_m_looks_17 : Nat → (Nat × Int32 × Int32) → Hp → Option (Int32 × Hp) := lp (fun k17 s h => b_m_looks_17 k17 s.1 s.2.1 s.2.2 h)
set_option maxHeartbeats 4000000 in
set_option maxRecDepth 20000 in
theorem tl_m_looks_17 {G : GG} (n : Nat) (s : Nat × Int32 × Int32) (h : Hp) : T G M_m_looks 4 cI 17 [(0, .ref s.1), (1, .int s.2.1), (2, .int s.2.2)] [] h (l_m_looks_17 n s h) :=
  T.loop (lsOf := fun s => [(0, .ref s.1), (1, .int s.2.1), (2, .int s.2.2)]) (fun k17 hk17 s h => tb_m_looks_17 hk17 s.1 s.2.1 s.2.2 h) n s h
noncomputable def f_m_looks (v0 : Nat) (h : Hp) : Option (Int32 × Hp) := gd (hS h v0 = some (.inl 11)) (bd (f_m_fitting v0 ((-1)) h) fun r2 h1 => lt ((-2) : Int32) fun y3 => gd (hS h1 v0 = some (.inl 11)) (lt (uI h1 v0 31 ((-2))) fun h4 => lt (1 : Int32) fun y5 => l_m_looks_17 FU (v0, y3, y5) h4))
set_option maxHeartbeats 4000000 in
set_option maxRecDepth 20000 in
theorem t_m_looks {G : GG} (v0 : Nat) (h : Hp) : Mt G M_m_looks 4 [.ref v0] cI h (f_m_looks v0 h) := by
  refine Mt.ofF (by decide +kernel) rfl (Rt.i rfl rfl) ?_
  show T G M_m_looks 4 cI 0 [(0, .ref v0)] [] h _
  unfold f_m_looks
  refine q_aload_n (pc := 0) (dq D_m_looks_0_ok 0 rfl) rfl 0 rfl ?_
  refine q_icm1 (pc := 1) (dq D_m_looks_0_ok 1 rfl) ?_
  refine r_invI (Mc := M_m_fitting) (pc := 2) (ci := 11) (rest := []) 3 1 [.int ((-1))] (dq D_m_looks_0_ok 2 rfl) rfl rfl lc_m_fitting lv_m_fitting_ ml_m_458 rfl rfl rfl rfl (t_m_fitting v0 ((-1)) h) (fun r2 h1 => ?_)
  refine q_pop (pc := 5) (dq D_m_looks_0_ok 3 rfl) rfl ?_
  refine q_bipush (pc := 6) (v := (-2)) (dq D_m_looks_0_ok 4 rfl) (by decide) ?_
  refine r_nmI (fun y3 => ?_)
  refine q_istore_n (pc := 8) (ls' := [(1, .int y3), (0, .ref v0)]) (dq D_m_looks_0_ok 5 rfl) rfl rfl rfl ?_
  refine q_aload_n (pc := 9) (dq D_m_looks_0_ok 6 rfl) rfl 1 rfl ?_
  refine q_bipush (pc := 10) (v := (-2)) (dq D_m_looks_0_ok 7 rfl) (by decide) ?_
  refine r_putI (pc := 12) (dq D_m_looks_0_ok 8 rfl) fp_m_461 rfl rfl (fun h4 => ?_)
  refine q_ic1 (pc := 15) (dq D_m_looks_0_ok 9 rfl) ?_
  refine r_nmI (fun y5 => ?_)
  refine q_istore_n (pc := 16) (ls' := [(2, .int y5), (1, .int y3), (0, .ref v0)]) (dq D_m_looks_0_ok 10 rfl) rfl rfl rfl ?_
  exact T.lsub [2, 1, 0] rfl (tl_m_looks_17 FU (v0, y3, y5) h4)
noncomputable def f_m_look (v0 : Nat) (h : Hp) : Option (Int32 × Hp) := gd (hS h v0 = some (.inl 11)) (lt (uI h v0 0 0) fun h1 => gd (hS h1 v0 = some (.inl 11)) (bd (f_m_refusesSuspect v0 h1) fun r3 h2 => if r3 ≤ 0 then (gd (hS h2 v0 = some (.inl 11)) (bd (f_m_looks v0 h2) fun r5 h4 => gd (hS h4 v0 = some (.inl 11)) (bd (f_m_good v0 r5 h4) fun r7 h6 => some (r7, h6)))) else (gd (hS h2 v0 = some (.inl 11)) (bd (f_m_refused v0 r3 h2) fun r9 h8 => some (r9, h8)))))
set_option maxHeartbeats 4000000 in
set_option maxRecDepth 20000 in
theorem t_m_look {G : GG} (v0 : Nat) (h : Hp) : Mt G M_m_look 5 [.ref v0] cI h (f_m_look v0 h) := by
  refine Mt.ofF (by decide +kernel) rfl (Rt.i rfl rfl) ?_
  show T G M_m_look 5 cI 0 [(0, .ref v0)] [] h _
  unfold f_m_look
  refine q_aload_n (pc := 0) (dq D_m_look_0_ok 0 rfl) rfl 0 rfl ?_
  refine q_ic0 (pc := 1) (dq D_m_look_0_ok 1 rfl) ?_
  refine r_putI (pc := 2) (dq D_m_look_0_ok 2 rfl) fp_m_54 rfl rfl (fun h1 => ?_)
  refine q_aload_n (pc := 5) (dq D_m_look_0_ok 3 rfl) rfl 0 rfl ?_
  refine r_invI (Mc := M_m_refusesSuspect) (pc := 6) (ci := 11) (rest := []) 0 0 [] (dq D_m_look_0_ok 4 rfl) rfl rfl lc_m_refusesSuspect lv_m_refusesSuspect_ ml_m_455 rfl rfl rfl rfl (t_m_refusesSuspect v0 h1) (fun r3 h2 => ?_)
  refine q_istore_n (pc := 9) (ls' := [(1, .int r3), (0, .ref v0)]) (dq D_m_look_0_ok 5 rfl) rfl rfl rfl ?_
  refine q_iload_n (pc := 10) (dq D_m_look_0_ok 6 rfl) rfl 0 rfl ?_
  refine p_if_le (pc := 11) 22 (dq D_m_look_0_ok 7 rfl) rfl ?_ ?_
  · refine q_aload_n (pc := 22) (dq D_m_look_0_ok 12 rfl) rfl 1 rfl ?_
    refine q_aload_n (pc := 23) (dq D_m_look_0_ok 13 rfl) rfl 1 rfl ?_
    refine r_invI (Mc := M_m_looks) (pc := 24) (ci := 11) (rest := [.ref v0]) 4 0 [] (dq D_m_look_0_ok 14 rfl) rfl rfl lc_m_looks lv_m_looks_ ml_m_464 rfl rfl rfl rfl (t_m_looks v0 h2) (fun r5 h4 => ?_)
    refine r_invI (Mc := M_m_good) (pc := 27) (ci := 11) (rest := []) 0 1 [.int r5] (dq D_m_look_0_ok 15 rfl) rfl rfl lc_m_good lv_m_good_ ml_m_64 rfl rfl rfl rfl (t_m_good v0 r5 h4) (fun r7 h6 => ?_)
    exact r_reti (pc := 30) (dq D_m_look_0_ok 16 rfl) rfl
  · refine q_aload_n (pc := 14) (dq D_m_look_0_ok 8 rfl) rfl 1 rfl ?_
    refine q_iload_n (pc := 15) (dq D_m_look_0_ok 9 rfl) rfl 0 rfl ?_
    refine r_invI (Mc := M_m_refused) (pc := 16) (ci := 11) (rest := []) 0 1 [.int r3] (dq D_m_look_0_ok 10 rfl) rfl rfl lc_m_refused lv_m_refused_ ml_m_60 rfl rfl rfl rfl (t_m_refused v0 r3 h2) (fun r9 h8 => ?_)
    refine q_goto (pc := 19) 30 (dq D_m_look_0_ok 11 rfl) rfl ?_
    exact r_reti (pc := 30) (dq D_m_look_0_ok 16 rfl) rfl
noncomputable def f_m_lookLeaves (v0 : Nat) (h : Hp) : Option (Int32 × Hp) := gd (hS h v0 = some (.inl 11)) (lt (uI h v0 0 0) fun h1 => gd (hS h1 v0 = some (.inl 11)) (bd (f_m_refusesSuspect v0 h1) fun r3 h2 => if r3 ≤ 0 then (gd (hS h2 v0 = some (.inl 11)) (bd (f_m_looks v0 h2) fun r5 h4 => gd (hS h4 v0 = some (.inl 11)) (lt (hI h4 v0 31) fun x6 => gd (hS h4 v0 = some (.inl 11)) (bd (f_m_good v0 x6 h4) fun r8 h7 => some (r8, h7))))) else (gd (hS h2 v0 = some (.inl 11)) (bd (f_m_refused v0 r3 h2) fun r10 h9 => some (r10, h9)))))
set_option maxHeartbeats 4000000 in
set_option maxRecDepth 20000 in
theorem t_m_lookLeaves {G : GG} (v0 : Nat) (h : Hp) : Mt G M_m_lookLeaves 5 [.ref v0] cI h (f_m_lookLeaves v0 h) := by
  refine Mt.ofF (by decide +kernel) rfl (Rt.i rfl rfl) ?_
  show T G M_m_lookLeaves 5 cI 0 [(0, .ref v0)] [] h _
  unfold f_m_lookLeaves
  refine q_aload_n (pc := 0) (dq D_m_lookLeaves_0_ok 0 rfl) rfl 0 rfl ?_
  refine q_ic0 (pc := 1) (dq D_m_lookLeaves_0_ok 1 rfl) ?_
  refine r_putI (pc := 2) (dq D_m_lookLeaves_0_ok 2 rfl) fp_m_54 rfl rfl (fun h1 => ?_)
  refine q_aload_n (pc := 5) (dq D_m_lookLeaves_0_ok 3 rfl) rfl 0 rfl ?_
  refine r_invI (Mc := M_m_refusesSuspect) (pc := 6) (ci := 11) (rest := []) 0 0 [] (dq D_m_lookLeaves_0_ok 4 rfl) rfl rfl lc_m_refusesSuspect lv_m_refusesSuspect_ ml_m_455 rfl rfl rfl rfl (t_m_refusesSuspect v0 h1) (fun r3 h2 => ?_)
  refine q_istore_n (pc := 9) (ls' := [(1, .int r3), (0, .ref v0)]) (dq D_m_lookLeaves_0_ok 5 rfl) rfl rfl rfl ?_
  refine q_iload_n (pc := 10) (dq D_m_lookLeaves_0_ok 6 rfl) rfl 0 rfl ?_
  refine p_if_le (pc := 11) 20 (dq D_m_lookLeaves_0_ok 7 rfl) rfl ?_ ?_
  · refine q_aload_n (pc := 20) (dq D_m_lookLeaves_0_ok 12 rfl) rfl 1 rfl ?_
    refine r_invI (Mc := M_m_looks) (pc := 21) (ci := 11) (rest := []) 4 0 [] (dq D_m_lookLeaves_0_ok 13 rfl) rfl rfl lc_m_looks lv_m_looks_ ml_m_464 rfl rfl rfl rfl (t_m_looks v0 h2) (fun r5 h4 => ?_)
    refine q_pop (pc := 24) (dq D_m_lookLeaves_0_ok 14 rfl) rfl ?_
    refine q_aload_n (pc := 25) (dq D_m_lookLeaves_0_ok 15 rfl) rfl 1 rfl ?_
    refine q_aload_n (pc := 26) (dq D_m_lookLeaves_0_ok 16 rfl) rfl 1 rfl ?_
    refine r_getI (pc := 27) (dq D_m_lookLeaves_0_ok 17 rfl) fa_m_461 rfl (fun x6 => ?_)
    refine r_invI (Mc := M_m_good) (pc := 30) (ci := 11) (rest := []) 0 1 [.int x6] (dq D_m_lookLeaves_0_ok 18 rfl) rfl rfl lc_m_good lv_m_good_ ml_m_64 rfl rfl rfl rfl (t_m_good v0 x6 h4) (fun r8 h7 => ?_)
    exact r_reti (pc := 33) (dq D_m_lookLeaves_0_ok 19 rfl) rfl
  · refine q_aload_n (pc := 14) (dq D_m_lookLeaves_0_ok 8 rfl) rfl 1 rfl ?_
    refine q_iload_n (pc := 15) (dq D_m_lookLeaves_0_ok 9 rfl) rfl 0 rfl ?_
    refine r_invI (Mc := M_m_refused) (pc := 16) (ci := 11) (rest := []) 0 1 [.int r3] (dq D_m_lookLeaves_0_ok 10 rfl) rfl rfl lc_m_refused lv_m_refused_ ml_m_60 rfl rfl rfl rfl (t_m_refused v0 r3 h2) (fun r10 h9 => ?_)
    exact r_reti (pc := 19) (dq D_m_lookLeaves_0_ok 11 rfl) rfl
noncomputable def b_m_judge_39 (v0 : Nat) (v1 : Int32) (v2 : Int32) (h : Hp) : Option (Int32 × Hp) := if v2 ≤ 0 then (gd (hS h v0 = some (.inl 11)) (bd (f_m_wrong v0 v1 h) fun r2 h1 => gd (hS h1 v0 = some (.inl 11)) (bd (f_m_good v0 r2 h1) fun r4 h3 => some (r4, h3)))) else (gd (hS h v0 = some (.inl 11)) (bd (f_m_refused v0 v2 h) fun r6 h5 => some (r6, h5)))
set_option maxHeartbeats 4000000 in
set_option maxRecDepth 20000 in
theorem tb_m_judge_39 {G : GG} (v0 : Nat) (v1 : Int32) (v2 : Int32) (h : Hp) : T G M_m_judge 3 cI 39 [(0, .ref v0), (1, .int v1), (2, .int v2)] [] h (b_m_judge_39 v0 v1 v2 h) := by
  unfold b_m_judge_39
  refine q_iload_n (pc := 39) (dq D_m_judge_0_ok 21 rfl) rfl 2 rfl ?_
  refine p_if_le (pc := 40) 51 (dq D_m_judge_0_ok 22 rfl) rfl ?_ ?_
  · refine q_aload_n (pc := 51) (dq D_m_judge_0_ok 27 rfl) rfl 0 rfl ?_
    refine q_aload_n (pc := 52) (dq D_m_judge_0_ok 28 rfl) rfl 0 rfl ?_
    refine q_iload_n (pc := 53) (dq D_m_judge_0_ok 29 rfl) rfl 1 rfl ?_
    refine r_invI (Mc := M_m_wrong) (pc := 54) (ci := 11) (rest := [.ref v0]) 2 1 [.int v1] (dq D_m_judge_0_ok 30 rfl) rfl rfl lc_m_wrong lv_m_wrong_ ml_m_452 rfl rfl rfl rfl (t_m_wrong v0 v1 h) (fun r2 h1 => ?_)
    refine r_invI (Mc := M_m_good) (pc := 57) (ci := 11) (rest := []) 0 1 [.int r2] (dq D_m_judge_0_ok 31 rfl) rfl rfl lc_m_good lv_m_good_ ml_m_64 rfl rfl rfl rfl (t_m_good v0 r2 h1) (fun r4 h3 => ?_)
    exact r_reti (pc := 60) (dq D_m_judge_0_ok 32 rfl) rfl
  · refine q_aload_n (pc := 43) (dq D_m_judge_0_ok 23 rfl) rfl 0 rfl ?_
    refine q_iload_n (pc := 44) (dq D_m_judge_0_ok 24 rfl) rfl 2 rfl ?_
    refine r_invI (Mc := M_m_refused) (pc := 45) (ci := 11) (rest := []) 0 1 [.int v2] (dq D_m_judge_0_ok 25 rfl) rfl rfl lc_m_refused lv_m_refused_ ml_m_60 rfl rfl rfl rfl (t_m_refused v0 v2 h) (fun r6 h5 => ?_)
    refine q_goto (pc := 48) 60 (dq D_m_judge_0_ok 26 rfl) rfl ?_
    exact r_reti (pc := 60) (dq D_m_judge_0_ok 32 rfl) rfl
noncomputable def f_m_judge (v0 : Nat) (v1 : Int32) (h : Hp) : Option (Int32 × Hp) := gd (hS h v0 = some (.inl 11)) (lt (uI h v0 0 0) fun h1 => gd (hS h1 v0 = some (.inl 11)) (bd (f_m_refusesSuspect v0 h1) fun r3 h2 => if r3 = 0 then (gd (hS h2 v0 = some (.inl 11)) (bR (hR h2 v0 3) fun x4 => gd (hS h2 x4 = some (.inl 12)) (bR (hR h2 x4 11) fun x5 => gd (hS h2 v0 = some (.inl 11)) (bR (hR h2 v0 3) fun x6 => gd (hS h2 x6 = some (.inl 12)) (lt (hI h2 x6 7) fun x7 => gd (ai h2 x5 0 x7) (lt (hI h2 x5 x7.toNatClampNeg) fun x8 => bd (f_m_in v1 (0 : Int32) x8 h2) fun r10 h9 => if r10 = 0 then (lt (2 : Int32) fun y11 => b_m_judge_39 v0 v1 y11 h9) else (b_m_judge_39 v0 v1 r3 h9))))))) else (b_m_judge_39 v0 v1 r3 h2)))
set_option maxHeartbeats 4000000 in
set_option maxRecDepth 20000 in
theorem t_m_judge {G : GG} (v0 : Nat) (v1 : Int32) (h : Hp) : Mt G M_m_judge 3 [.ref v0, .int v1] cI h (f_m_judge v0 v1 h) := by
  refine Mt.ofF (by decide +kernel) rfl (Rt.i rfl rfl) ?_
  show T G M_m_judge 3 cI 0 [(0, .ref v0), (1, .int v1)] [] h _
  unfold f_m_judge
  refine q_aload_n (pc := 0) (dq D_m_judge_0_ok 0 rfl) rfl 0 rfl ?_
  refine q_ic0 (pc := 1) (dq D_m_judge_0_ok 1 rfl) ?_
  refine r_putI (pc := 2) (dq D_m_judge_0_ok 2 rfl) fp_m_54 rfl rfl (fun h1 => ?_)
  refine q_aload_n (pc := 5) (dq D_m_judge_0_ok 3 rfl) rfl 0 rfl ?_
  refine r_invI (Mc := M_m_refusesSuspect) (pc := 6) (ci := 11) (rest := []) 0 0 [] (dq D_m_judge_0_ok 4 rfl) rfl rfl lc_m_refusesSuspect lv_m_refusesSuspect_ ml_m_455 rfl rfl rfl rfl (t_m_refusesSuspect v0 h1) (fun r3 h2 => ?_)
  refine q_istore_n (pc := 9) (ls' := [(2, .int r3), (0, .ref v0), (1, .int v1)]) (dq D_m_judge_0_ok 5 rfl) rfl rfl rfl ?_
  refine q_iload_n (pc := 10) (dq D_m_judge_0_ok 6 rfl) rfl 0 rfl ?_
  refine p_if_ne (pc := 11) 39 (dq D_m_judge_0_ok 7 rfl) rfl ?_ ?_
  · exact T.lsub [1, 2, 0] rfl (tb_m_judge_39 v0 v1 r3 h2)
  · refine q_iload_n (pc := 14) (dq D_m_judge_0_ok 8 rfl) rfl 2 rfl ?_
    refine q_ic0 (pc := 15) (dq D_m_judge_0_ok 9 rfl) ?_
    refine q_aload_n (pc := 16) (dq D_m_judge_0_ok 10 rfl) rfl 1 rfl ?_
    refine q_getR (pc := 17) (dq D_m_judge_0_ok 11 rfl) fa_m_348 rfl (fun x4 => ?_)
    refine q_getR (pc := 20) (dq D_m_judge_0_ok 12 rfl) fa_m_269 rfl (fun x5 => ?_)
    refine q_aload_n (pc := 23) (dq D_m_judge_0_ok 13 rfl) rfl 1 rfl ?_
    refine q_getR (pc := 24) (dq D_m_judge_0_ok 14 rfl) fa_m_348 rfl (fun x6 => ?_)
    refine r_getI (pc := 27) (dq D_m_judge_0_ok 15 rfl) fa_m_278 rfl (fun x7 => ?_)
    refine r_iald (pc := 30) (dq D_m_judge_0_ok 16 rfl) (fun x8 => ?_)
    refine r_insI (Mc := M_m_in) (pc := 31) (rest := []) 0 3 [.int v1, .int 0, .int x8] (dq D_m_judge_0_ok 17 rfl) lc_m_in ls_m_in ml_m_133 rfl rfl rfl rfl (t_m_in v1 (0 : Int32) x8 h2) (fun r10 h9 => ?_)
    refine p_if_ne (pc := 34) 39 (dq D_m_judge_0_ok 18 rfl) rfl ?_ ?_
    · exact T.lsub [1, 2, 0] rfl (tb_m_judge_39 v0 v1 r3 h9)
    · refine q_ic2 (pc := 37) (dq D_m_judge_0_ok 19 rfl) ?_
      refine r_nmI (fun y11 => ?_)
      refine q_istore_n (pc := 38) (ls' := [(2, .int y11), (0, .ref v0), (1, .int v1)]) (dq D_m_judge_0_ok 20 rfl) rfl rfl rfl ?_
      exact T.lsub [1, 2, 0] rfl (tb_m_judge_39 v0 v1 y11 h9)
noncomputable def b_m_feastsBy_82 (k9 : (Nat × Int32 × Int32 × Int32 × Int32) → Hp → Option (Int32 × Hp)) (v0 : Nat) (v1 : Int32) (v2 : Int32) (v4 : Int32) (s0 : Int32) (s1 : Int32) (h : Hp) : Option (Int32 × Hp) := lt (s1 + s0 : Int32) fun y1 => k9 (v0, v1, v2, y1, v4 + 1) h
set_option maxHeartbeats 4000000 in
set_option maxRecDepth 20000 in
theorem tb_m_feastsBy_82 {G : GG} {k9 : (Nat × Int32 × Int32 × Int32 × Int32) → Hp → Option (Int32 × Hp)} (hk9 : ∀ s h, T G M_m_feastsBy 3 cI 9 [(0, .ref s.1), (1, .int s.2.1), (2, .int s.2.2.1), (3, .int s.2.2.2.1), (4, .int s.2.2.2.2)] [] h (k9 s h)) (v0 : Nat) (v1 : Int32) (v2 : Int32) (v4 : Int32) (s0 : Int32) (s1 : Int32) (h : Hp) : T G M_m_feastsBy 3 cI 82 [(0, .ref v0), (1, .int v1), (2, .int v2), (4, .int v4)] [.int s0, .int s1] h (b_m_feastsBy_82 k9 v0 v1 v2 v4 s0 s1 h) := by
  unfold b_m_feastsBy_82
  refine q_iadd (pc := 82) (dq D_m_feastsBy_0_ok 47 rfl) ?_
  refine r_nmI (fun y1 => ?_)
  refine q_istore_n (pc := 83) (ls' := [(3, .int y1), (0, .ref v0), (1, .int v1), (2, .int v2), (4, .int v4)]) (dq D_m_feastsBy_0_ok 48 rfl) rfl rfl rfl ?_
  refine q_iinc (pc := 84) (v := (1)) (ls' := [(4, .int (v4 + 1)), (3, .int y1), (0, .ref v0), (1, .int v1), (2, .int v2)]) (dq D_m_feastsBy_0_ok 49 rfl) 4 rfl (by decide) rfl rfl ?_
  refine q_goto (pc := 87) 9 (dq D_m_feastsBy_0_ok 50 rfl) rfl ?_
  exact T.lsub [2, 3, 4, 1, 0] rfl (hk9 (v0, v1, v2, y1, v4 + 1) h)
noncomputable def b_m_feastsBy_68 (k9 : (Nat × Int32 × Int32 × Int32 × Int32) → Hp → Option (Int32 × Hp)) (v0 : Nat) (v1 : Int32) (v2 : Int32) (v3 : Int32) (v4 : Int32) (h : Hp) : Option (Int32 × Hp) := gd (hS h v0 = some (.inl 11)) (bd (f_m_isOn v0 v1 h) fun r2 h1 => if r2 = 0 then (b_m_feastsBy_82 k9 v0 v1 v2 v4 0 v3 h1) else (b_m_feastsBy_82 k9 v0 v1 v2 v4 1 v3 h1))
set_option maxHeartbeats 4000000 in
set_option maxRecDepth 20000 in
theorem tb_m_feastsBy_68 {G : GG} {k9 : (Nat × Int32 × Int32 × Int32 × Int32) → Hp → Option (Int32 × Hp)} (hk9 : ∀ s h, T G M_m_feastsBy 3 cI 9 [(0, .ref s.1), (1, .int s.2.1), (2, .int s.2.2.1), (3, .int s.2.2.2.1), (4, .int s.2.2.2.2)] [] h (k9 s h)) (v0 : Nat) (v1 : Int32) (v2 : Int32) (v3 : Int32) (v4 : Int32) (h : Hp) : T G M_m_feastsBy 3 cI 68 [(0, .ref v0), (1, .int v1), (2, .int v2), (3, .int v3), (4, .int v4)] [] h (b_m_feastsBy_68 k9 v0 v1 v2 v3 v4 h) := by
  unfold b_m_feastsBy_68
  refine q_iload_n (pc := 68) (dq D_m_feastsBy_0_ok 39 rfl) rfl 3 rfl ?_
  refine q_aload_n (pc := 69) (dq D_m_feastsBy_0_ok 40 rfl) rfl 0 rfl ?_
  refine q_iload_n (pc := 70) (dq D_m_feastsBy_0_ok 41 rfl) rfl 1 rfl ?_
  refine r_invI (Mc := M_m_isOn) (pc := 71) (ci := 11) (rest := [.int v3]) 1 1 [.int v1] (dq D_m_feastsBy_0_ok 42 rfl) rfl rfl lc_m_isOn lv_m_isOn_ ml_m_385 rfl rfl rfl rfl (t_m_isOn v0 v1 h) (fun r2 h1 => ?_)
  refine p_if_eq (pc := 74) 81 (dq D_m_feastsBy_0_ok 43 rfl) rfl ?_ ?_
  · refine q_ic0 (pc := 81) (dq D_m_feastsBy_0_ok 46 rfl) ?_
    exact T.lsub [0, 1, 2, 4] rfl (tb_m_feastsBy_82 hk9 v0 v1 v2 v4 0 v3 h1)
  · refine q_ic1 (pc := 77) (dq D_m_feastsBy_0_ok 44 rfl) ?_
    refine q_goto (pc := 78) 82 (dq D_m_feastsBy_0_ok 45 rfl) rfl ?_
    exact T.lsub [0, 1, 2, 4] rfl (tb_m_feastsBy_82 hk9 v0 v1 v2 v4 1 v3 h1)
noncomputable def b_m_feastsBy_52 (k9 : (Nat × Int32 × Int32 × Int32 × Int32) → Hp → Option (Int32 × Hp)) (v0 : Nat) (v1 : Int32) (v2 : Int32) (v3 : Int32) (v4 : Int32) (h : Hp) : Option (Int32 × Hp) := gd (hS h v0 = some (.inl 11)) (bR (hR h v0 33) fun x1 => gd (ai h x1 0 v4) (lt (hI h x1 v4.toNatClampNeg) fun x2 => if x2 = 2 then (gd (hS h v0 = some (.inl 11)) (bd (f_m_aTurnBack v0 h) fun r4 h3 => b_m_feastsBy_68 k9 v0 v1 v2 v3 v4 h3)) else (b_m_feastsBy_68 k9 v0 v1 v2 v3 v4 h)))
set_option maxHeartbeats 4000000 in
set_option maxRecDepth 20000 in
theorem tb_m_feastsBy_52 {G : GG} {k9 : (Nat × Int32 × Int32 × Int32 × Int32) → Hp → Option (Int32 × Hp)} (hk9 : ∀ s h, T G M_m_feastsBy 3 cI 9 [(0, .ref s.1), (1, .int s.2.1), (2, .int s.2.2.1), (3, .int s.2.2.2.1), (4, .int s.2.2.2.2)] [] h (k9 s h)) (v0 : Nat) (v1 : Int32) (v2 : Int32) (v3 : Int32) (v4 : Int32) (h : Hp) : T G M_m_feastsBy 3 cI 52 [(0, .ref v0), (1, .int v1), (2, .int v2), (3, .int v3), (4, .int v4)] [] h (b_m_feastsBy_52 k9 v0 v1 v2 v3 v4 h) := by
  unfold b_m_feastsBy_52
  refine q_aload_n (pc := 52) (dq D_m_feastsBy_0_ok 30 rfl) rfl 0 rfl ?_
  refine q_getR (pc := 53) (dq D_m_feastsBy_0_ok 31 rfl) fa_m_51 rfl (fun x1 => ?_)
  refine q_iload (pc := 56) (dq D_m_feastsBy_0_ok 32 rfl) 4 rfl ?_
  refine r_iald (pc := 58) (dq D_m_feastsBy_0_ok 33 rfl) (fun x2 => ?_)
  refine q_ic2 (pc := 59) (dq D_m_feastsBy_0_ok 34 rfl) ?_
  refine q_ic_ne (pc := 60) 68 (dq D_m_feastsBy_0_ok 35 rfl) rfl ?_ ?_
  · exact T.lsub [0, 1, 2, 3, 4] rfl (tb_m_feastsBy_68 hk9 v0 v1 v2 v3 v4 h)
  · refine q_aload_n (pc := 63) (dq D_m_feastsBy_0_ok 36 rfl) rfl 0 rfl ?_
    refine r_invI (Mc := M_m_aTurnBack) (pc := 64) (ci := 11) (rest := []) 1 0 [] (dq D_m_feastsBy_0_ok 37 rfl) rfl rfl lc_m_aTurnBack lv_m_aTurnBack_ ml_m_467 rfl rfl rfl rfl (t_m_aTurnBack v0 h) (fun r4 h3 => ?_)
    refine q_pop (pc := 67) (dq D_m_feastsBy_0_ok 38 rfl) rfl ?_
    exact T.lsub [0, 1, 2, 3, 4] rfl (tb_m_feastsBy_68 hk9 v0 v1 v2 v3 v4 h3)
noncomputable def b_m_feastsBy_37 (k9 : (Nat × Int32 × Int32 × Int32 × Int32) → Hp → Option (Int32 × Hp)) (v0 : Nat) (v1 : Int32) (v2 : Int32) (v3 : Int32) (v4 : Int32) (h : Hp) : Option (Int32 × Hp) := gd (hS h v0 = some (.inl 11)) (bR (hR h v0 33) fun x1 => gd (ai h x1 0 v4) (lt (hI h x1 v4.toNatClampNeg) fun x2 => if x2 = 0 then (gd (hS h v0 = some (.inl 11)) (bd (f_m_aTurn v0 h) fun r4 h3 => b_m_feastsBy_52 k9 v0 v1 v2 v3 v4 h3)) else (b_m_feastsBy_52 k9 v0 v1 v2 v3 v4 h)))
set_option maxHeartbeats 4000000 in
set_option maxRecDepth 20000 in
theorem tb_m_feastsBy_37 {G : GG} {k9 : (Nat × Int32 × Int32 × Int32 × Int32) → Hp → Option (Int32 × Hp)} (hk9 : ∀ s h, T G M_m_feastsBy 3 cI 9 [(0, .ref s.1), (1, .int s.2.1), (2, .int s.2.2.1), (3, .int s.2.2.2.1), (4, .int s.2.2.2.2)] [] h (k9 s h)) (v0 : Nat) (v1 : Int32) (v2 : Int32) (v3 : Int32) (v4 : Int32) (h : Hp) : T G M_m_feastsBy 3 cI 37 [(0, .ref v0), (1, .int v1), (2, .int v2), (3, .int v3), (4, .int v4)] [] h (b_m_feastsBy_37 k9 v0 v1 v2 v3 v4 h) := by
  unfold b_m_feastsBy_37
  refine q_aload_n (pc := 37) (dq D_m_feastsBy_0_ok 22 rfl) rfl 0 rfl ?_
  refine q_getR (pc := 38) (dq D_m_feastsBy_0_ok 23 rfl) fa_m_51 rfl (fun x1 => ?_)
  refine q_iload (pc := 41) (dq D_m_feastsBy_0_ok 24 rfl) 4 rfl ?_
  refine r_iald (pc := 43) (dq D_m_feastsBy_0_ok 25 rfl) (fun x2 => ?_)
  refine p_if_ne (pc := 44) 52 (dq D_m_feastsBy_0_ok 26 rfl) rfl ?_ ?_
  · exact T.lsub [0, 1, 2, 3, 4] rfl (tb_m_feastsBy_52 hk9 v0 v1 v2 v3 v4 h)
  · refine q_aload_n (pc := 47) (dq D_m_feastsBy_0_ok 27 rfl) rfl 0 rfl ?_
    refine r_invI (Mc := M_m_aTurn) (pc := 48) (ci := 11) (rest := []) 2 0 [] (dq D_m_feastsBy_0_ok 28 rfl) rfl rfl lc_m_aTurn lv_m_aTurn_ ml_m_403 rfl rfl rfl rfl (t_m_aTurn v0 h) (fun r4 h3 => ?_)
    refine q_pop (pc := 51) (dq D_m_feastsBy_0_ok 29 rfl) rfl ?_
    exact T.lsub [0, 1, 2, 3, 4] rfl (tb_m_feastsBy_52 hk9 v0 v1 v2 v3 v4 h3)
noncomputable def b_m_feastsBy_9 (k9 : (Nat × Int32 × Int32 × Int32 × Int32) → Hp → Option (Int32 × Hp)) (v0 : Nat) (v1 : Int32) (v2 : Int32) (v3 : Int32) (v4 : Int32) (h : Hp) : Option (Int32 × Hp) := if v2 ≤ v4 then (some (v3, h)) else (gd (hS h v0 = some (.inl 11)) (bR (hR h v0 33) fun x1 => gd (ai h x1 0 v4) (lt (hI h x1 v4.toNatClampNeg) fun x2 => if x2 = 2 then (gd (hS h v0 = some (.inl 11)) (bR (hR h v0 16) fun x3 => gd (ai h x3 0 5) (lt (hI h x3 (5 : Int32).toNatClampNeg) fun x4 => if x4 = 0 then (some ((-1), h)) else (b_m_feastsBy_37 k9 v0 v1 v2 v3 v4 h)))) else (b_m_feastsBy_37 k9 v0 v1 v2 v3 v4 h))))
set_option maxHeartbeats 4000000 in
set_option maxRecDepth 20000 in
theorem tb_m_feastsBy_9 {G : GG} {k9 : (Nat × Int32 × Int32 × Int32 × Int32) → Hp → Option (Int32 × Hp)} (hk9 : ∀ s h, T G M_m_feastsBy 3 cI 9 [(0, .ref s.1), (1, .int s.2.1), (2, .int s.2.2.1), (3, .int s.2.2.2.1), (4, .int s.2.2.2.2)] [] h (k9 s h)) (v0 : Nat) (v1 : Int32) (v2 : Int32) (v3 : Int32) (v4 : Int32) (h : Hp) : T G M_m_feastsBy 3 cI 9 [(0, .ref v0), (1, .int v1), (2, .int v2), (3, .int v3), (4, .int v4)] [] h (b_m_feastsBy_9 k9 v0 v1 v2 v3 v4 h) := by
  unfold b_m_feastsBy_9
  refine q_iload (pc := 9) (dq D_m_feastsBy_0_ok 6 rfl) 4 rfl ?_
  refine q_iload_n (pc := 11) (dq D_m_feastsBy_0_ok 7 rfl) rfl 2 rfl ?_
  refine q_ic_ge (pc := 12) 90 (dq D_m_feastsBy_0_ok 8 rfl) rfl ?_ ?_
  · refine q_iload_n (pc := 90) (dq D_m_feastsBy_0_ok 51 rfl) rfl 3 rfl ?_
    exact r_reti (pc := 91) (dq D_m_feastsBy_0_ok 52 rfl) rfl
  · refine q_aload_n (pc := 15) (dq D_m_feastsBy_0_ok 9 rfl) rfl 0 rfl ?_
    refine q_getR (pc := 16) (dq D_m_feastsBy_0_ok 10 rfl) fa_m_51 rfl (fun x1 => ?_)
    refine q_iload (pc := 19) (dq D_m_feastsBy_0_ok 11 rfl) 4 rfl ?_
    refine r_iald (pc := 21) (dq D_m_feastsBy_0_ok 12 rfl) (fun x2 => ?_)
    refine q_ic2 (pc := 22) (dq D_m_feastsBy_0_ok 13 rfl) ?_
    refine q_ic_ne (pc := 23) 37 (dq D_m_feastsBy_0_ok 14 rfl) rfl ?_ ?_
    · exact T.lsub [0, 1, 2, 3, 4] rfl (tb_m_feastsBy_37 hk9 v0 v1 v2 v3 v4 h)
    · refine q_aload_n (pc := 26) (dq D_m_feastsBy_0_ok 15 rfl) rfl 0 rfl ?_
      refine q_getR (pc := 27) (dq D_m_feastsBy_0_ok 16 rfl) fa_m_21 rfl (fun x3 => ?_)
      refine q_ic5 (pc := 30) (dq D_m_feastsBy_0_ok 17 rfl) ?_
      refine r_iald (pc := 31) (dq D_m_feastsBy_0_ok 18 rfl) (fun x4 => ?_)
      refine p_if_ne (pc := 32) 37 (dq D_m_feastsBy_0_ok 19 rfl) rfl ?_ ?_
      · exact T.lsub [0, 1, 2, 3, 4] rfl (tb_m_feastsBy_37 hk9 v0 v1 v2 v3 v4 h)
      · refine q_icm1 (pc := 35) (dq D_m_feastsBy_0_ok 20 rfl) ?_
        exact r_reti (pc := 36) (dq D_m_feastsBy_0_ok 21 rfl) rfl
noncomputable def l_m_feastsBy_9 : Nat → (Nat × Int32 × Int32 × Int32 × Int32) → Hp → Option (Int32 × Hp) := lp (fun k9 s h => b_m_feastsBy_9 k9 s.1 s.2.1 s.2.2.1 s.2.2.2.1 s.2.2.2.2 h)
set_option maxHeartbeats 4000000 in
set_option maxRecDepth 20000 in
theorem tl_m_feastsBy_9 {G : GG} (n : Nat) (s : Nat × Int32 × Int32 × Int32 × Int32) (h : Hp) : T G M_m_feastsBy 3 cI 9 [(0, .ref s.1), (1, .int s.2.1), (2, .int s.2.2.1), (3, .int s.2.2.2.1), (4, .int s.2.2.2.2)] [] h (l_m_feastsBy_9 n s h) :=
  T.loop (lsOf := fun s => [(0, .ref s.1), (1, .int s.2.1), (2, .int s.2.2.1), (3, .int s.2.2.2.1), (4, .int s.2.2.2.2)]) (fun k9 hk9 s h => tb_m_feastsBy_9 hk9 s.1 s.2.1 s.2.2.1 s.2.2.2.1 s.2.2.2.2 h) n s h
noncomputable def f_m_feastsBy (v0 : Nat) (v1 : Int32) (v2 : Int32) (h : Hp) : Option (Int32 × Hp) := gd (hS h v0 = some (.inl 11)) (bd (f_m_works v0 h) fun _ h1 => lt (0 : Int32) fun y3 => lt (0 : Int32) fun y4 => l_m_feastsBy_9 FU (v0, v1, v2, y3, y4) h1)
set_option maxHeartbeats 4000000 in
set_option maxRecDepth 20000 in
theorem t_m_feastsBy {G : GG} (v0 : Nat) (v1 : Int32) (v2 : Int32) (h : Hp) : Mt G M_m_feastsBy 3 [.ref v0, .int v1, .int v2] cI h (f_m_feastsBy v0 v1 v2 h) := by
  refine Mt.ofF (by decide +kernel) rfl (Rt.i rfl rfl) ?_
  show T G M_m_feastsBy 3 cI 0 [(0, .ref v0), (1, .int v1), (2, .int v2)] [] h _
  unfold f_m_feastsBy
  refine q_aload_n (pc := 0) (dq D_m_feastsBy_0_ok 0 rfl) rfl 0 rfl ?_
  refine r_invU (Mc := M_m_works) (pc := 1) (ci := 11) (rest := []) 0 0 [] (dq D_m_feastsBy_0_ok 1 rfl) rfl rfl lc_m_works lv_m_works_ ml_m_383 rfl rfl rfl rfl (t_m_works v0 h) (fun _ h1 => ?_)
  refine q_ic0 (pc := 4) (dq D_m_feastsBy_0_ok 2 rfl) ?_
  refine r_nmI (fun y3 => ?_)
  refine q_istore_n (pc := 5) (ls' := [(3, .int y3), (0, .ref v0), (1, .int v1), (2, .int v2)]) (dq D_m_feastsBy_0_ok 3 rfl) rfl rfl rfl ?_
  refine q_ic0 (pc := 6) (dq D_m_feastsBy_0_ok 4 rfl) ?_
  refine r_nmI (fun y4 => ?_)
  refine q_istore (pc := 7) (ls' := [(4, .int y4), (3, .int y3), (0, .ref v0), (1, .int v1), (2, .int v2)]) (dq D_m_feastsBy_0_ok 5 rfl) rfl rfl ?_
  exact T.lsub [2, 3, 4, 1, 0] rfl (tl_m_feastsBy_9 FU (v0, v1, v2, y3, y4) h1)
