noncomputable def f_B_look (v0 : Nat) (h : Hp) : Option (Int32 × Hp) := gd (hS h v0 = some (.inl 0)) (bd (f_B_suspectTrouble v0 h) fun r2 h1 => if r2 = 0 then (gd (hS h1 v0 = some (.inl 0)) (bR (hR h1 v0 11) fun x3 => gd (hS h1 v0 = some (.inl 0)) (bR (hR h1 v0 3) fun x4 => gd (hS h1 x3 = some (.inl 8)) (bd (f_S_weigh x3 x4 h1) fun _ h5 => gd (hS h5 v0 = some (.inl 0)) (bR (hR h5 v0 11) fun x7 => gd (hS h5 x7 = some (.inl 8)) (lt (hI h5 x7 5) fun x8 => gd (hS h5 v0 = some (.inl 0)) (bd (f_B_grant v0 x8 h5) fun r10 h9 => some (r10, h9)))))))) else (gd (hS h1 v0 = some (.inl 0)) (bd (f_B_refuse v0 r2 h1) fun r12 h11 => some (r12, h11))))
set_option maxHeartbeats 4000000 in
set_option maxRecDepth 20000 in
theorem t_B_look {G : GG} (v0 : Nat) (h : Hp) : Mt G M_B_look 3 [.ref v0] cI h (f_B_look v0 h) := by
  refine Mt.ofF (by decide +kernel) rfl (Rt.i rfl rfl) ?_
  show T G M_B_look 3 cI 0 [(0, .ref v0)] [] h _
  unfold f_B_look
  refine q_aload_n (pc := 0) (dq D_B_look_0_ok 0 rfl) rfl 0 rfl ?_
  refine r_invI (Mc := M_B_suspectTrouble) (pc := 1) (ci := 0) (rest := []) 1 0 [] (dq D_B_look_0_ok 1 rfl) rfl rfl lc_B_suspectTrouble lv_B_suspectTrouble_ ml_B_255 rfl rfl rfl rfl (t_B_suspectTrouble v0 h) (fun r2 h1 => ?_)
  refine q_istore_n (pc := 4) (ls' := [(1, .int r2), (0, .ref v0)]) (dq D_B_look_0_ok 2 rfl) rfl rfl rfl ?_
  refine q_iload_n (pc := 5) (dq D_B_look_0_ok 3 rfl) rfl 0 rfl ?_
  refine p_if_eq (pc := 6) 15 (dq D_B_look_0_ok 4 rfl) rfl ?_ ?_
  · refine q_aload_n (pc := 15) (dq D_B_look_0_ok 9 rfl) rfl 1 rfl ?_
    refine q_getR (pc := 16) (dq D_B_look_0_ok 10 rfl) fa_B_61 rfl (fun x3 => ?_)
    refine q_aload_n (pc := 19) (dq D_B_look_0_ok 11 rfl) rfl 1 rfl ?_
    refine q_getR (pc := 20) (dq D_B_look_0_ok 12 rfl) fa_B_23 rfl (fun x4 => ?_)
    refine r_invU (Mc := M_S_weigh) (pc := 23) (ci := 8) (rest := []) 2 1 [.ref x4] (dq D_B_look_0_ok 13 rfl) rfl rfl lc_S_weigh lv_S_weigh_ ml_B_258 rfl rfl rfl rfl (t_S_weigh x3 x4 h1) (fun _ h5 => ?_)
    refine q_aload_n (pc := 26) (dq D_B_look_0_ok 14 rfl) rfl 1 rfl ?_
    refine q_aload_n (pc := 27) (dq D_B_look_0_ok 15 rfl) rfl 1 rfl ?_
    refine q_getR (pc := 28) (dq D_B_look_0_ok 16 rfl) fa_B_61 rfl (fun x7 => ?_)
    refine r_getI (pc := 31) (dq D_B_look_0_ok 17 rfl) fa_B_271 rfl (fun x8 => ?_)
    refine r_invI (Mc := M_B_grant) (pc := 34) (ci := 0) (rest := []) 0 1 [.int x8] (dq D_B_look_0_ok 18 rfl) rfl rfl lc_B_grant lv_B_grant_ ml_B_109 rfl rfl rfl rfl (t_B_grant v0 x8 h5) (fun r10 h9 => ?_)
    exact r_reti (pc := 37) (dq D_B_look_0_ok 19 rfl) rfl
  · refine q_aload_n (pc := 9) (dq D_B_look_0_ok 5 rfl) rfl 1 rfl ?_
    refine q_iload_n (pc := 10) (dq D_B_look_0_ok 6 rfl) rfl 0 rfl ?_
    refine r_invI (Mc := M_B_refuse) (pc := 11) (ci := 0) (rest := []) 0 1 [.int r2] (dq D_B_look_0_ok 7 rfl) rfl rfl lc_B_refuse lv_B_refuse_ ml_B_87 rfl rfl rfl rfl (t_B_refuse v0 r2 h1) (fun r12 h11 => ?_)
    exact r_reti (pc := 14) (dq D_B_look_0_ok 8 rfl) rfl
noncomputable def f_B_lookLeaves (v0 : Nat) (h : Hp) : Option (Int32 × Hp) := gd (hS h v0 = some (.inl 0)) (bd (f_B_suspectTrouble v0 h) fun r2 h1 => if r2 = 0 then (gd (hS h1 v0 = some (.inl 0)) (bR (hR h1 v0 11) fun x3 => gd (hS h1 v0 = some (.inl 0)) (bR (hR h1 v0 3) fun x4 => gd (hS h1 x3 = some (.inl 8)) (bd (f_S_weigh x3 x4 h1) fun _ h5 => gd (hS h5 v0 = some (.inl 0)) (bR (hR h5 v0 11) fun x7 => gd (hS h5 x7 = some (.inl 8)) (lt (hI h5 x7 6) fun x8 => gd (hS h5 v0 = some (.inl 0)) (bd (f_B_grant v0 x8 h5) fun r10 h9 => some (r10, h9)))))))) else (gd (hS h1 v0 = some (.inl 0)) (bd (f_B_refuse v0 r2 h1) fun r12 h11 => some (r12, h11))))
set_option maxHeartbeats 4000000 in
set_option maxRecDepth 20000 in
theorem t_B_lookLeaves {G : GG} (v0 : Nat) (h : Hp) : Mt G M_B_lookLeaves 3 [.ref v0] cI h (f_B_lookLeaves v0 h) := by
  refine Mt.ofF (by decide +kernel) rfl (Rt.i rfl rfl) ?_
  show T G M_B_lookLeaves 3 cI 0 [(0, .ref v0)] [] h _
  unfold f_B_lookLeaves
  refine q_aload_n (pc := 0) (dq D_B_lookLeaves_0_ok 0 rfl) rfl 0 rfl ?_
  refine r_invI (Mc := M_B_suspectTrouble) (pc := 1) (ci := 0) (rest := []) 1 0 [] (dq D_B_lookLeaves_0_ok 1 rfl) rfl rfl lc_B_suspectTrouble lv_B_suspectTrouble_ ml_B_255 rfl rfl rfl rfl (t_B_suspectTrouble v0 h) (fun r2 h1 => ?_)
  refine q_istore_n (pc := 4) (ls' := [(1, .int r2), (0, .ref v0)]) (dq D_B_lookLeaves_0_ok 2 rfl) rfl rfl rfl ?_
  refine q_iload_n (pc := 5) (dq D_B_lookLeaves_0_ok 3 rfl) rfl 0 rfl ?_
  refine p_if_eq (pc := 6) 15 (dq D_B_lookLeaves_0_ok 4 rfl) rfl ?_ ?_
  · refine q_aload_n (pc := 15) (dq D_B_lookLeaves_0_ok 9 rfl) rfl 1 rfl ?_
    refine q_getR (pc := 16) (dq D_B_lookLeaves_0_ok 10 rfl) fa_B_61 rfl (fun x3 => ?_)
    refine q_aload_n (pc := 19) (dq D_B_lookLeaves_0_ok 11 rfl) rfl 1 rfl ?_
    refine q_getR (pc := 20) (dq D_B_lookLeaves_0_ok 12 rfl) fa_B_23 rfl (fun x4 => ?_)
    refine r_invU (Mc := M_S_weigh) (pc := 23) (ci := 8) (rest := []) 2 1 [.ref x4] (dq D_B_lookLeaves_0_ok 13 rfl) rfl rfl lc_S_weigh lv_S_weigh_ ml_B_258 rfl rfl rfl rfl (t_S_weigh x3 x4 h1) (fun _ h5 => ?_)
    refine q_aload_n (pc := 26) (dq D_B_lookLeaves_0_ok 14 rfl) rfl 1 rfl ?_
    refine q_aload_n (pc := 27) (dq D_B_lookLeaves_0_ok 15 rfl) rfl 1 rfl ?_
    refine q_getR (pc := 28) (dq D_B_lookLeaves_0_ok 16 rfl) fa_B_61 rfl (fun x7 => ?_)
    refine r_getI (pc := 31) (dq D_B_lookLeaves_0_ok 17 rfl) fa_B_274 rfl (fun x8 => ?_)
    refine r_invI (Mc := M_B_grant) (pc := 34) (ci := 0) (rest := []) 0 1 [.int x8] (dq D_B_lookLeaves_0_ok 18 rfl) rfl rfl lc_B_grant lv_B_grant_ ml_B_109 rfl rfl rfl rfl (t_B_grant v0 x8 h5) (fun r10 h9 => ?_)
    exact r_reti (pc := 37) (dq D_B_lookLeaves_0_ok 19 rfl) rfl
  · refine q_aload_n (pc := 9) (dq D_B_lookLeaves_0_ok 5 rfl) rfl 1 rfl ?_
    refine q_iload_n (pc := 10) (dq D_B_lookLeaves_0_ok 6 rfl) rfl 0 rfl ?_
    refine r_invI (Mc := M_B_refuse) (pc := 11) (ci := 0) (rest := []) 0 1 [.int r2] (dq D_B_lookLeaves_0_ok 7 rfl) rfl rfl lc_B_refuse lv_B_refuse_ ml_B_87 rfl rfl rfl rfl (t_B_refuse v0 r2 h1) (fun r12 h11 => ?_)
    exact r_reti (pc := 14) (dq D_B_lookLeaves_0_ok 8 rfl) rfl
noncomputable def b_B_judge_41 (v0 : Nat) (h : Hp) : Option (Int32 × Hp) := gd (hS h v0 = some (.inl 0)) (bd (f_B_refuse v0 (2 : Int32) h) fun r2 h1 => some (r2, h1))
set_option maxHeartbeats 4000000 in
set_option maxRecDepth 20000 in
theorem tb_B_judge_41 {G : GG} (v0 : Nat) (h : Hp) : T G M_B_judge 3 cI 41 [(0, .ref v0)] [] h (b_B_judge_41 v0 h) := by
  unfold b_B_judge_41
  refine q_aload_n (pc := 41) (dq D_B_judge_0_ok 21 rfl) rfl 0 rfl ?_
  refine q_ic2 (pc := 42) (dq D_B_judge_0_ok 22 rfl) ?_
  refine r_invI (Mc := M_B_refuse) (pc := 43) (ci := 0) (rest := []) 0 1 [.int 2] (dq D_B_judge_0_ok 23 rfl) rfl rfl lc_B_refuse lv_B_refuse_ ml_B_87 rfl rfl rfl rfl (t_B_refuse v0 (2 : Int32) h) (fun r2 h1 => ?_)
  exact r_reti (pc := 46) (dq D_B_judge_0_ok 24 rfl) rfl
noncomputable def f_B_judge (v0 : Nat) (v1 : Int32) (h : Hp) : Option (Int32 × Hp) := gd (hS h v0 = some (.inl 0)) (bd (f_B_suspectTrouble v0 h) fun r2 h1 => if r2 = 0 then (if v1 < 0 then (b_B_judge_41 v0 h1) else (gd (hS h1 v0 = some (.inl 0)) (bR (hR h1 v0 3) fun x3 => gd (hS h1 x3 = some (.inl 2)) (bR (hR h1 x3 3) fun x4 => gd (hS h1 v0 = some (.inl 0)) (bR (hR h1 v0 3) fun x5 => gd (hS h1 x5 = some (.inl 2)) (lt (hI h1 x5 12) fun x6 => gd (ai h1 x4 4 x6) (bR (hR h1 x4 x6.toNatClampNeg) fun x7 => gd (hS h1 x7 = some (.inl 3)) (lt (hI h1 x7 1) fun x8 => if v1 ≤ x8 then (gd (hS h1 v0 = some (.inl 0)) (bR (hR h1 v0 11) fun x9 => gd (hS h1 v0 = some (.inl 0)) (bR (hR h1 v0 3) fun x10 => gd (hS h1 x9 = some (.inl 8)) (bd (f_S_weigh x9 x10 h1) fun _ h11 => gd (hS h11 v0 = some (.inl 0)) (bR (hR h11 v0 11) fun x13 => gd (hS h11 v0 = some (.inl 0)) (bR (hR h11 v0 3) fun x14 => gd (hS h11 x13 = some (.inl 8)) (bd (f_S_firstAgainst x13 x14 v1 h11) fun r16 h15 => gd (hS h15 v0 = some (.inl 0)) (bd (f_B_grant v0 r16 h15) fun r18 h17 => some (r18, h17))))))))) else (b_B_judge_41 v0 h1))))))))) else (gd (hS h1 v0 = some (.inl 0)) (bd (f_B_refuse v0 r2 h1) fun r20 h19 => some (r20, h19))))
set_option maxHeartbeats 4000000 in
set_option maxRecDepth 20000 in
theorem t_B_judge {G : GG} (v0 : Nat) (v1 : Int32) (h : Hp) : Mt G M_B_judge 3 [.ref v0, .int v1] cI h (f_B_judge v0 v1 h) := by
  refine Mt.ofF (by decide +kernel) rfl (Rt.i rfl rfl) ?_
  show T G M_B_judge 3 cI 0 [(0, .ref v0), (1, .int v1)] [] h _
  unfold f_B_judge
  refine q_aload_n (pc := 0) (dq D_B_judge_0_ok 0 rfl) rfl 0 rfl ?_
  refine r_invI (Mc := M_B_suspectTrouble) (pc := 1) (ci := 0) (rest := []) 1 0 [] (dq D_B_judge_0_ok 1 rfl) rfl rfl lc_B_suspectTrouble lv_B_suspectTrouble_ ml_B_255 rfl rfl rfl rfl (t_B_suspectTrouble v0 h) (fun r2 h1 => ?_)
  refine q_istore_n (pc := 4) (ls' := [(2, .int r2), (0, .ref v0), (1, .int v1)]) (dq D_B_judge_0_ok 2 rfl) rfl rfl rfl ?_
  refine q_iload_n (pc := 5) (dq D_B_judge_0_ok 3 rfl) rfl 0 rfl ?_
  refine p_if_eq (pc := 6) 15 (dq D_B_judge_0_ok 4 rfl) rfl ?_ ?_
  · refine q_iload_n (pc := 15) (dq D_B_judge_0_ok 9 rfl) rfl 2 rfl ?_
    refine p_if_lt (pc := 16) 41 (dq D_B_judge_0_ok 10 rfl) rfl ?_ ?_
    · exact T.lsub [1] rfl (tb_B_judge_41 v0 h1)
    · refine q_iload_n (pc := 19) (dq D_B_judge_0_ok 11 rfl) rfl 2 rfl ?_
      refine q_aload_n (pc := 20) (dq D_B_judge_0_ok 12 rfl) rfl 1 rfl ?_
      refine q_getR (pc := 21) (dq D_B_judge_0_ok 13 rfl) fa_B_23 rfl (fun x3 => ?_)
      refine q_getR (pc := 24) (dq D_B_judge_0_ok 14 rfl) fa_B_122 rfl (fun x4 => ?_)
      refine q_aload_n (pc := 27) (dq D_B_judge_0_ok 15 rfl) rfl 1 rfl ?_
      refine q_getR (pc := 28) (dq D_B_judge_0_ok 16 rfl) fa_B_23 rfl (fun x5 => ?_)
      refine r_getI (pc := 31) (dq D_B_judge_0_ok 17 rfl) fa_B_268 rfl (fun x6 => ?_)
      refine r_aald (pc := 34) 4 (dq D_B_judge_0_ok 18 rfl) rfl rfl (fun _ => rfl) (fun x7 => ?_)
      refine r_getI (pc := 35) (dq D_B_judge_0_ok 19 rfl) fa_B_131 rfl (fun x8 => ?_)
      refine q_ic_le (pc := 38) 47 (dq D_B_judge_0_ok 20 rfl) rfl ?_ ?_
      · refine q_aload_n (pc := 47) (dq D_B_judge_0_ok 25 rfl) rfl 1 rfl ?_
        refine q_getR (pc := 48) (dq D_B_judge_0_ok 26 rfl) fa_B_61 rfl (fun x9 => ?_)
        refine q_aload_n (pc := 51) (dq D_B_judge_0_ok 27 rfl) rfl 1 rfl ?_
        refine q_getR (pc := 52) (dq D_B_judge_0_ok 28 rfl) fa_B_23 rfl (fun x10 => ?_)
        refine r_invU (Mc := M_S_weigh) (pc := 55) (ci := 8) (rest := []) 2 1 [.ref x10] (dq D_B_judge_0_ok 29 rfl) rfl rfl lc_S_weigh lv_S_weigh_ ml_B_258 rfl rfl rfl rfl (t_S_weigh x9 x10 h1) (fun _ h11 => ?_)
        refine q_aload_n (pc := 58) (dq D_B_judge_0_ok 30 rfl) rfl 1 rfl ?_
        refine q_aload_n (pc := 59) (dq D_B_judge_0_ok 31 rfl) rfl 1 rfl ?_
        refine q_getR (pc := 60) (dq D_B_judge_0_ok 32 rfl) fa_B_61 rfl (fun x13 => ?_)
        refine q_aload_n (pc := 63) (dq D_B_judge_0_ok 33 rfl) rfl 1 rfl ?_
        refine q_getR (pc := 64) (dq D_B_judge_0_ok 34 rfl) fa_B_23 rfl (fun x14 => ?_)
        refine q_iload_n (pc := 67) (dq D_B_judge_0_ok 35 rfl) rfl 2 rfl ?_
        refine r_invI (Mc := M_S_firstAgainst) (pc := 68) (ci := 8) (rest := [.ref v0]) 1 2 [.ref x14, .int v1] (dq D_B_judge_0_ok 36 rfl) rfl rfl lc_S_firstAgainst lv_S_firstAgainst_ ml_B_277 rfl rfl rfl rfl (t_S_firstAgainst x13 x14 v1 h11) (fun r16 h15 => ?_)
        refine r_invI (Mc := M_B_grant) (pc := 71) (ci := 0) (rest := []) 0 1 [.int r16] (dq D_B_judge_0_ok 37 rfl) rfl rfl lc_B_grant lv_B_grant_ ml_B_109 rfl rfl rfl rfl (t_B_grant v0 r16 h15) (fun r18 h17 => ?_)
        exact r_reti (pc := 74) (dq D_B_judge_0_ok 38 rfl) rfl
      · exact T.lsub [1] rfl (tb_B_judge_41 v0 h1)
  · refine q_aload_n (pc := 9) (dq D_B_judge_0_ok 5 rfl) rfl 1 rfl ?_
    refine q_iload_n (pc := 10) (dq D_B_judge_0_ok 6 rfl) rfl 0 rfl ?_
    refine r_invI (Mc := M_B_refuse) (pc := 11) (ci := 0) (rest := []) 0 1 [.int r2] (dq D_B_judge_0_ok 7 rfl) rfl rfl lc_B_refuse lv_B_refuse_ ml_B_87 rfl rfl rfl rfl (t_B_refuse v0 r2 h1) (fun r20 h19 => ?_)
    exact r_reti (pc := 14) (dq D_B_judge_0_ok 8 rfl) rfl
noncomputable def f_O_moveOne (v0 : Nat) (v1 : Nat) (v2 : Int32) (v3 : Int32) (v4 : Int32) (h : Hp) : Option (Int32 × Hp) := gd (hS h v0 = some (.inl 2)) (bR (hR h v0 3) fun x1 => gd (ai h x1 4 v2) (bR (hR h x1 v2.toNatClampNeg) fun x2 => gd (ai h v1 0 (3 + v2)) (lt (hI h v1 (3 + v2).toNatClampNeg) fun x3 => gd (hS h x2 = some (.inl 3)) (bd (f_W_landing x2 x3 v3 v4 h) fun r5 h4 => gd (hS h4 v0 = some (.inl 2)) (bR (hR h4 v0 3) fun x6 => gd (ai h4 x6 4 v2) (bR (hR h4 x6 v2.toNatClampNeg) fun x7 => gd (hS h4 x7 = some (.inl 3)) (bd (f_W_resting x7 r5 v4 h4) fun r9 h8 => gd (ai h8 v1 0 (3 + v2)) (lt (uI h8 v1 (3 + v2).toNatClampNeg r9) fun h10 => gd (hS h10 v0 = some (.inl 2)) (bR (hR h10 v0 3) fun x11 => gd (ai h10 x11 4 v2) (bR (hR h10 x11 v2.toNatClampNeg) fun x12 => gd (hS h10 x12 = some (.inl 3)) (bd (f_W_lacks x12 r5 h10) fun r14 h13 => gd (zb r14) (some (r14, h13)))))))))))))
set_option maxHeartbeats 4000000 in
set_option maxRecDepth 20000 in
theorem t_O_moveOne {G : GG} (v0 : Nat) (v1 : Nat) (v2 : Int32) (v3 : Int32) (v4 : Int32) (h : Hp) : Mt G M_O_moveOne 1 [.ref v0, .ref v1, .int v2, .int v3, .int v4] cI h (f_O_moveOne v0 v1 v2 v3 v4 h) := by
  refine Mt.ofF (by decide +kernel) rfl (Rt.z rfl rfl) ?_
  show T G M_O_moveOne 1 cI 0 [(0, .ref v0), (1, .ref v1), (2, .int v2), (3, .int v3), (4, .int v4)] [] h _
  unfold f_O_moveOne
  refine q_aload_n (pc := 0) (dq D_O_moveOne_0_ok 0 rfl) rfl 0 rfl ?_
  refine q_getR (pc := 1) (dq D_O_moveOne_0_ok 1 rfl) fa_O_11 rfl (fun x1 => ?_)
  refine q_iload_n (pc := 4) (dq D_O_moveOne_0_ok 2 rfl) rfl 2 rfl ?_
  refine r_aald (pc := 5) 4 (dq D_O_moveOne_0_ok 3 rfl) rfl rfl (fun _ => rfl) (fun x2 => ?_)
  refine q_aload_n (pc := 6) (dq D_O_moveOne_0_ok 4 rfl) rfl 1 rfl ?_
  refine q_ic3 (pc := 7) (dq D_O_moveOne_0_ok 5 rfl) ?_
  refine q_iload_n (pc := 8) (dq D_O_moveOne_0_ok 6 rfl) rfl 2 rfl ?_
  refine q_iadd (pc := 9) (dq D_O_moveOne_0_ok 7 rfl) ?_
  refine r_iald (pc := 10) (dq D_O_moveOne_0_ok 8 rfl) (fun x3 => ?_)
  refine q_iload_n (pc := 11) (dq D_O_moveOne_0_ok 9 rfl) rfl 3 rfl ?_
  refine q_iload (pc := 12) (dq D_O_moveOne_0_ok 10 rfl) 4 rfl ?_
  refine r_invI (Mc := M_W_landing) (pc := 14) (ci := 3) (rest := []) 0 3 [.int x3, .int v3, .int v4] (dq D_O_moveOne_0_ok 11 rfl) rfl rfl lc_W_landing lv_W_landing_ ml_O_120 rfl rfl rfl rfl (t_W_landing x2 x3 v3 v4 h) (fun r5 h4 => ?_)
  refine q_istore (pc := 17) (ls' := [(5, .int r5), (0, .ref v0), (1, .ref v1), (2, .int v2), (3, .int v3), (4, .int v4)]) (dq D_O_moveOne_0_ok 12 rfl) rfl rfl ?_
  refine q_aload_n (pc := 19) (dq D_O_moveOne_0_ok 13 rfl) rfl 2 rfl ?_
  refine q_ic3 (pc := 20) (dq D_O_moveOne_0_ok 14 rfl) ?_
  refine q_iload_n (pc := 21) (dq D_O_moveOne_0_ok 15 rfl) rfl 3 rfl ?_
  refine q_iadd (pc := 22) (dq D_O_moveOne_0_ok 16 rfl) ?_
  refine q_aload_n (pc := 23) (dq D_O_moveOne_0_ok 17 rfl) rfl 1 rfl ?_
  refine q_getR (pc := 24) (dq D_O_moveOne_0_ok 18 rfl) fa_O_11 rfl (fun x6 => ?_)
  refine q_iload_n (pc := 27) (dq D_O_moveOne_0_ok 19 rfl) rfl 3 rfl ?_
  refine r_aald (pc := 28) 4 (dq D_O_moveOne_0_ok 20 rfl) rfl rfl (fun _ => rfl) (fun x7 => ?_)
  refine q_iload (pc := 29) (dq D_O_moveOne_0_ok 21 rfl) 0 rfl ?_
  refine q_iload (pc := 31) (dq D_O_moveOne_0_ok 22 rfl) 5 rfl ?_
  refine r_invI (Mc := M_W_resting) (pc := 33) (ci := 3) (rest := [.int (3 + v2), .ref v1]) 0 2 [.int r5, .int v4] (dq D_O_moveOne_0_ok 23 rfl) rfl rfl lc_W_resting lv_W_resting_ ml_O_124 rfl rfl rfl rfl (t_W_resting x7 r5 v4 h4) (fun r9 h8 => ?_)
  refine r_iast (pc := 36) (dq D_O_moveOne_0_ok 24 rfl) (fun h10 => ?_)
  refine q_aload_n (pc := 37) (dq D_O_moveOne_0_ok 25 rfl) rfl 1 rfl ?_
  refine q_getR (pc := 38) (dq D_O_moveOne_0_ok 26 rfl) fa_O_11 rfl (fun x11 => ?_)
  refine q_iload_n (pc := 41) (dq D_O_moveOne_0_ok 27 rfl) rfl 3 rfl ?_
  refine r_aald (pc := 42) 4 (dq D_O_moveOne_0_ok 28 rfl) rfl rfl (fun _ => rfl) (fun x12 => ?_)
  refine q_iload (pc := 43) (dq D_O_moveOne_0_ok 29 rfl) 0 rfl ?_
  refine r_invI (Mc := M_W_lacks) (pc := 45) (ci := 3) (rest := []) 0 1 [.int r5] (dq D_O_moveOne_0_ok 30 rfl) rfl rfl lc_W_lacks lv_W_lacks_ ml_O_127 rfl rfl rfl rfl (t_W_lacks x12 r5 h10) (fun r14 h13 => ?_)
  exact r_retz (pc := 48) (dq D_O_moveOne_0_ok 31 rfl) rfl
noncomputable def b_O_moveAll_62 (k5 : (Nat × Nat × Int32 × Int32 × Int32) → Hp → Option (Int32 × Hp)) (v0 : Nat) (v1 : Nat) (v2 : Int32) (v3 : Int32) (v4 : Int32) (h : Hp) : Option (Int32 × Hp) := k5 (v0, v1, v2, v3, v4 + 1) h
set_option maxHeartbeats 4000000 in
set_option maxRecDepth 20000 in
theorem tb_O_moveAll_62 {G : GG} {k5 : (Nat × Nat × Int32 × Int32 × Int32) → Hp → Option (Int32 × Hp)} (hk5 : ∀ s h, T G M_O_moveAll 2 cI 5 [(0, .ref s.1), (1, .ref s.2.1), (2, .int s.2.2.1), (3, .int s.2.2.2.1), (4, .int s.2.2.2.2)] [] h (k5 s h)) (v0 : Nat) (v1 : Nat) (v2 : Int32) (v3 : Int32) (v4 : Int32) (h : Hp) : T G M_O_moveAll 2 cI 62 [(0, .ref v0), (1, .ref v1), (2, .int v2), (3, .int v3), (4, .int v4)] [] h (b_O_moveAll_62 k5 v0 v1 v2 v3 v4 h) := by
  unfold b_O_moveAll_62
  refine q_iinc (pc := 62) (v := (1)) (ls' := [(4, .int (v4 + 1)), (0, .ref v0), (1, .ref v1), (2, .int v2), (3, .int v3)]) (dq D_O_moveAll_0_ok 34 rfl) 4 rfl (by decide) rfl rfl ?_
  refine q_goto (pc := 65) 5 (dq D_O_moveAll_0_ok 35 rfl) rfl ?_
  exact T.lsub [1, 2, 3, 4, 0] rfl (hk5 (v0, v1, v2, v3, v4 + 1) h)
noncomputable def b_O_moveAll_5 (k5 : (Nat × Nat × Int32 × Int32 × Int32) → Hp → Option (Int32 × Hp)) (v0 : Nat) (v1 : Nat) (v2 : Int32) (v3 : Int32) (v4 : Int32) (h : Hp) : Option (Int32 × Hp) := gd (hS h v0 = some (.inl 2)) (lt (hI h v0 2) fun x1 => if x1 ≤ v4 then (gd (ai h v1 0 2) (lt (hI h v1 (2 : Int32).toNatClampNeg) fun x2 => gd (ai h v1 0 2) (lt (uI h v1 (2 : Int32).toNatClampNeg (x2 + v3)) fun h3 => some (v3, h3)))) else (gd (hS h v0 = some (.inl 2)) (bR (hR h v0 3) fun x4 => gd (ai h x4 4 v4) (bR (hR h x4 v4.toNatClampNeg) fun x5 => gd (ai h v1 0 0) (lt (hI h v1 (0 : Int32).toNatClampNeg) fun x6 => gd (ai h v1 0 1) (lt (hI h v1 (1 : Int32).toNatClampNeg) fun x7 => gd (hS h x5 = some (.inl 3)) (bd (f_W_goesOn x5 x6 x7 h) fun r9 h8 => if r9 = 0 then (b_O_moveAll_62 k5 v0 v1 v2 v3 v4 h8) else (gd (hS h8 x5 = some (.inl 3)) (lt (hI h8 x5 2) fun x10 => gd (hS h8 x5 = some (.inl 3)) (bd (f_W_way x5 h8) fun r12 h11 => gd (hS h11 v0 = some (.inl 2)) (bd (f_O_moveOne v0 v1 v4 x10 (v2 * r12) h11) fun r14 h13 => if r14 = 0 then (b_O_moveAll_62 k5 v0 v1 v2 v3 v4 h13) else (b_O_moveAll_62 k5 v0 v1 v2 (v3 + 1) v4 h13))))))))))))
set_option maxHeartbeats 4000000 in
set_option maxRecDepth 20000 in
theorem tb_O_moveAll_5 {G : GG} {k5 : (Nat × Nat × Int32 × Int32 × Int32) → Hp → Option (Int32 × Hp)} (hk5 : ∀ s h, T G M_O_moveAll 2 cI 5 [(0, .ref s.1), (1, .ref s.2.1), (2, .int s.2.2.1), (3, .int s.2.2.2.1), (4, .int s.2.2.2.2)] [] h (k5 s h)) (v0 : Nat) (v1 : Nat) (v2 : Int32) (v3 : Int32) (v4 : Int32) (h : Hp) : T G M_O_moveAll 2 cI 5 [(0, .ref v0), (1, .ref v1), (2, .int v2), (3, .int v3), (4, .int v4)] [] h (b_O_moveAll_5 k5 v0 v1 v2 v3 v4 h) := by
  unfold b_O_moveAll_5
  refine q_iload (pc := 5) (dq D_O_moveAll_0_ok 4 rfl) 4 rfl ?_
  refine q_aload_n (pc := 7) (dq D_O_moveAll_0_ok 5 rfl) rfl 0 rfl ?_
  refine r_getI (pc := 8) (dq D_O_moveAll_0_ok 6 rfl) fa_O_54 rfl (fun x1 => ?_)
  refine q_ic_ge (pc := 11) 68 (dq D_O_moveAll_0_ok 7 rfl) rfl ?_ ?_
  · refine q_aload_n (pc := 68) (dq D_O_moveAll_0_ok 36 rfl) rfl 1 rfl ?_
    refine q_ic2 (pc := 69) (dq D_O_moveAll_0_ok 37 rfl) ?_
    refine q_dup2 (pc := 70) (dq D_O_moveAll_0_ok 38 rfl) rfl rfl ?_
    refine r_iald (pc := 71) (dq D_O_moveAll_0_ok 39 rfl) (fun x2 => ?_)
    refine q_iload_n (pc := 72) (dq D_O_moveAll_0_ok 40 rfl) rfl 3 rfl ?_
    refine q_iadd (pc := 73) (dq D_O_moveAll_0_ok 41 rfl) ?_
    refine r_iast (pc := 74) (dq D_O_moveAll_0_ok 42 rfl) (fun h3 => ?_)
    refine q_iload_n (pc := 75) (dq D_O_moveAll_0_ok 43 rfl) rfl 3 rfl ?_
    exact r_reti (pc := 76) (dq D_O_moveAll_0_ok 44 rfl) rfl
  · refine q_aload_n (pc := 14) (dq D_O_moveAll_0_ok 8 rfl) rfl 0 rfl ?_
    refine q_getR (pc := 15) (dq D_O_moveAll_0_ok 9 rfl) fa_O_11 rfl (fun x4 => ?_)
    refine q_iload (pc := 18) (dq D_O_moveAll_0_ok 10 rfl) 4 rfl ?_
    refine r_aald (pc := 20) 4 (dq D_O_moveAll_0_ok 11 rfl) rfl rfl (fun _ => rfl) (fun x5 => ?_)
    refine q_astore (pc := 21) (ls' := [(5, .ref x5), (0, .ref v0), (1, .ref v1), (2, .int v2), (3, .int v3), (4, .int v4)]) (dq D_O_moveAll_0_ok 12 rfl) rfl rfl ?_
    refine q_aload (pc := 23) (dq D_O_moveAll_0_ok 13 rfl) 0 rfl ?_
    refine q_aload_n (pc := 25) (dq D_O_moveAll_0_ok 14 rfl) rfl 2 rfl ?_
    refine q_ic0 (pc := 26) (dq D_O_moveAll_0_ok 15 rfl) ?_
    refine r_iald (pc := 27) (dq D_O_moveAll_0_ok 16 rfl) (fun x6 => ?_)
    refine q_aload_n (pc := 28) (dq D_O_moveAll_0_ok 17 rfl) rfl 2 rfl ?_
    refine q_ic1 (pc := 29) (dq D_O_moveAll_0_ok 18 rfl) ?_
    refine r_iald (pc := 30) (dq D_O_moveAll_0_ok 19 rfl) (fun x7 => ?_)
    refine r_invI (Mc := M_W_goesOn) (pc := 31) (ci := 3) (rest := []) 0 2 [.int x6, .int x7] (dq D_O_moveAll_0_ok 20 rfl) rfl rfl lc_W_goesOn lv_W_goesOn_ ml_O_105 rfl rfl rfl rfl (t_W_goesOn x5 x6 x7 h) (fun r9 h8 => ?_)
    refine p_if_eq (pc := 34) 62 (dq D_O_moveAll_0_ok 21 rfl) rfl ?_ ?_
    · exact T.lsub [1, 2, 3, 4, 5] rfl (tb_O_moveAll_62 hk5 v0 v1 v2 v3 v4 h8)
    · refine q_aload_n (pc := 37) (dq D_O_moveAll_0_ok 22 rfl) rfl 1 rfl ?_
      refine q_aload_n (pc := 38) (dq D_O_moveAll_0_ok 23 rfl) rfl 2 rfl ?_
      refine q_iload (pc := 39) (dq D_O_moveAll_0_ok 24 rfl) 5 rfl ?_
      refine q_aload (pc := 41) (dq D_O_moveAll_0_ok 25 rfl) 0 rfl ?_
      refine r_getI (pc := 43) (dq D_O_moveAll_0_ok 26 rfl) fa_O_109 rfl (fun x10 => ?_)
      refine q_iload_n (pc := 46) (dq D_O_moveAll_0_ok 27 rfl) rfl 3 rfl ?_
      refine q_aload (pc := 47) (dq D_O_moveAll_0_ok 28 rfl) 0 rfl ?_
      refine r_invI (Mc := M_W_way) (pc := 49) (ci := 3) (rest := [.int v2, .int x10, .int v4, .ref v1, .ref v0]) 0 0 [] (dq D_O_moveAll_0_ok 29 rfl) rfl rfl lc_W_way lv_W_way_ ml_O_112 rfl rfl rfl rfl (t_W_way x5 h8) (fun r12 h11 => ?_)
      refine q_imul (pc := 52) (dq D_O_moveAll_0_ok 30 rfl) ?_
      refine r_invI (Mc := M_O_moveOne) (pc := 53) (ci := 2) (rest := []) 1 4 [.ref v1, .int v4, .int x10, .int (v2 * r12)] (dq D_O_moveAll_0_ok 31 rfl) rfl rfl lc_O_moveOne lv_O_moveOne_ ml_O_116 rfl rfl rfl rfl (t_O_moveOne v0 v1 v4 x10 (v2 * r12) h11) (fun r14 h13 => ?_)
      refine p_if_eq (pc := 56) 62 (dq D_O_moveAll_0_ok 32 rfl) rfl ?_ ?_
      · exact T.lsub [1, 2, 3, 4, 5] rfl (tb_O_moveAll_62 hk5 v0 v1 v2 v3 v4 h13)
      · refine q_iinc (pc := 59) (v := (1)) (ls' := [(3, .int (v3 + 1)), (5, .ref x5), (0, .ref v0), (1, .ref v1), (2, .int v2), (4, .int v4)]) (dq D_O_moveAll_0_ok 33 rfl) 4 rfl (by decide) rfl rfl ?_
        exact T.lsub [2, 3, 4, 0, 5] rfl (tb_O_moveAll_62 hk5 v0 v1 v2 (v3 + 1) v4 h13)
noncomputable def l_O_moveAll_5 : Nat → (Nat × Nat × Int32 × Int32 × Int32) → Hp → Option (Int32 × Hp) := lp (fun k5 s h => b_O_moveAll_5 k5 s.1 s.2.1 s.2.2.1 s.2.2.2.1 s.2.2.2.2 h)
set_option maxHeartbeats 4000000 in
set_option maxRecDepth 20000 in
theorem tl_O_moveAll_5 {G : GG} (n : Nat) (s : Nat × Nat × Int32 × Int32 × Int32) (h : Hp) : T G M_O_moveAll 2 cI 5 [(0, .ref s.1), (1, .ref s.2.1), (2, .int s.2.2.1), (3, .int s.2.2.2.1), (4, .int s.2.2.2.2)] [] h (l_O_moveAll_5 n s h) :=
  T.loop (lsOf := fun s => [(0, .ref s.1), (1, .ref s.2.1), (2, .int s.2.2.1), (3, .int s.2.2.2.1), (4, .int s.2.2.2.2)]) (fun k5 hk5 s h => tb_O_moveAll_5 hk5 s.1 s.2.1 s.2.2.1 s.2.2.2.1 s.2.2.2.2 h) n s h
noncomputable def f_O_moveAll (v0 : Nat) (v1 : Nat) (v2 : Int32) (h : Hp) : Option (Int32 × Hp) := lt (0 : Int32) fun y1 => lt (0 : Int32) fun y2 => l_O_moveAll_5 FU (v0, v1, v2, y1, y2) h
set_option maxHeartbeats 4000000 in
set_option maxRecDepth 20000 in
theorem t_O_moveAll {G : GG} (v0 : Nat) (v1 : Nat) (v2 : Int32) (h : Hp) : Mt G M_O_moveAll 2 [.ref v0, .ref v1, .int v2] cI h (f_O_moveAll v0 v1 v2 h) := by
  refine Mt.ofF (by decide +kernel) rfl (Rt.i rfl rfl) ?_
  show T G M_O_moveAll 2 cI 0 [(0, .ref v0), (1, .ref v1), (2, .int v2)] [] h _
  unfold f_O_moveAll
  refine q_ic0 (pc := 0) (dq D_O_moveAll_0_ok 0 rfl) ?_
  refine r_nmI (fun y1 => ?_)
  refine q_istore_n (pc := 1) (ls' := [(3, .int y1), (0, .ref v0), (1, .ref v1), (2, .int v2)]) (dq D_O_moveAll_0_ok 1 rfl) rfl rfl rfl ?_
  refine q_ic0 (pc := 2) (dq D_O_moveAll_0_ok 2 rfl) ?_
  refine r_nmI (fun y2 => ?_)
  refine q_istore (pc := 3) (ls' := [(4, .int y2), (3, .int y1), (0, .ref v0), (1, .ref v1), (2, .int v2)]) (dq D_O_moveAll_0_ok 3 rfl) rfl rfl ?_
  exact T.lsub [2, 3, 4, 1, 0] rfl (tl_O_moveAll_5 FU (v0, v1, v2, y1, y2) h)
noncomputable def f_O_goTurn (v0 : Nat) (v1 : Nat) (h : Hp) : Option (Int32 × Hp) := gd (hS h v0 = some (.inl 2)) (bd (f_O_moveAll v0 v1 (1 : Int32) h) fun r2 h1 => gd (ai h1 v1 0 0) (lt (hI h1 v1 (0 : Int32).toNatClampNeg) fun x3 => gd (ai h1 v1 0 0) (lt (uI h1 v1 (0 : Int32).toNatClampNeg (x3 + 1)) fun h4 => gd (ai h4 v1 0 1) (lt (hI h4 v1 (1 : Int32).toNatClampNeg) fun x5 => if x5 ≤ 0 then (some (r2, h4)) else (gd (ai h4 v1 0 1) (lt (hI h4 v1 (1 : Int32).toNatClampNeg) fun x6 => gd (ai h4 v1 0 1) (lt (uI h4 v1 (1 : Int32).toNatClampNeg (x6 - 1)) fun h7 => some (r2, h7))))))))
set_option maxHeartbeats 4000000 in
set_option maxRecDepth 20000 in
theorem t_O_goTurn {G : GG} (v0 : Nat) (v1 : Nat) (h : Hp) : Mt G M_O_goTurn 3 [.ref v0, .ref v1] cI h (f_O_goTurn v0 v1 h) := by
  refine Mt.ofF (by decide +kernel) rfl (Rt.i rfl rfl) ?_
  show T G M_O_goTurn 3 cI 0 [(0, .ref v0), (1, .ref v1)] [] h _
  unfold f_O_goTurn
  refine q_aload_n (pc := 0) (dq D_O_goTurn_0_ok 0 rfl) rfl 0 rfl ?_
  refine q_aload_n (pc := 1) (dq D_O_goTurn_0_ok 1 rfl) rfl 1 rfl ?_
  refine q_ic1 (pc := 2) (dq D_O_goTurn_0_ok 2 rfl) ?_
  refine r_invI (Mc := M_O_moveAll) (pc := 3) (ci := 2) (rest := []) 2 2 [.ref v1, .int 1] (dq D_O_goTurn_0_ok 3 rfl) rfl rfl lc_O_moveAll lv_O_moveAll_ ml_O_101 rfl rfl rfl rfl (t_O_moveAll v0 v1 (1 : Int32) h) (fun r2 h1 => ?_)
  refine q_istore_n (pc := 6) (ls' := [(2, .int r2), (0, .ref v0), (1, .ref v1)]) (dq D_O_goTurn_0_ok 4 rfl) rfl rfl rfl ?_
  refine q_aload_n (pc := 7) (dq D_O_goTurn_0_ok 5 rfl) rfl 2 rfl ?_
  refine q_ic0 (pc := 8) (dq D_O_goTurn_0_ok 6 rfl) ?_
  refine q_dup2 (pc := 9) (dq D_O_goTurn_0_ok 7 rfl) rfl rfl ?_
  refine r_iald (pc := 10) (dq D_O_goTurn_0_ok 8 rfl) (fun x3 => ?_)
  refine q_ic1 (pc := 11) (dq D_O_goTurn_0_ok 9 rfl) ?_
  refine q_iadd (pc := 12) (dq D_O_goTurn_0_ok 10 rfl) ?_
  refine r_iast (pc := 13) (dq D_O_goTurn_0_ok 11 rfl) (fun h4 => ?_)
  refine q_aload_n (pc := 14) (dq D_O_goTurn_0_ok 12 rfl) rfl 2 rfl ?_
  refine q_ic1 (pc := 15) (dq D_O_goTurn_0_ok 13 rfl) ?_
  refine r_iald (pc := 16) (dq D_O_goTurn_0_ok 14 rfl) (fun x5 => ?_)
  refine p_if_le (pc := 17) 27 (dq D_O_goTurn_0_ok 15 rfl) rfl ?_ ?_
  · refine q_iload_n (pc := 27) (dq D_O_goTurn_0_ok 23 rfl) rfl 0 rfl ?_
    exact r_reti (pc := 28) (dq D_O_goTurn_0_ok 24 rfl) rfl
  · refine q_aload_n (pc := 20) (dq D_O_goTurn_0_ok 16 rfl) rfl 2 rfl ?_
    refine q_ic1 (pc := 21) (dq D_O_goTurn_0_ok 17 rfl) ?_
    refine q_dup2 (pc := 22) (dq D_O_goTurn_0_ok 18 rfl) rfl rfl ?_
    refine r_iald (pc := 23) (dq D_O_goTurn_0_ok 19 rfl) (fun x6 => ?_)
    refine q_ic1 (pc := 24) (dq D_O_goTurn_0_ok 20 rfl) ?_
    refine q_isub (pc := 25) (dq D_O_goTurn_0_ok 21 rfl) ?_
    refine r_iast (pc := 26) (dq D_O_goTurn_0_ok 22 rfl) (fun h7 => ?_)
    refine q_iload_n (pc := 27) (dq D_O_goTurn_0_ok 23 rfl) rfl 0 rfl ?_
    exact r_reti (pc := 28) (dq D_O_goTurn_0_ok 24 rfl) rfl
noncomputable def f_O_goTurnBack (v0 : Nat) (v1 : Nat) (h : Hp) : Option (Int32 × Hp) := gd (ai h v1 0 0) (lt (hI h v1 (0 : Int32).toNatClampNeg) fun x1 => gd (ai h v1 0 0) (lt (uI h v1 (0 : Int32).toNatClampNeg (x1 - 1)) fun h2 => gd (hS h2 v0 = some (.inl 2)) (bd (f_O_moveAll v0 v1 ((-1)) h2) fun r4 h3 => some (r4, h3))))
set_option maxHeartbeats 4000000 in
set_option maxRecDepth 20000 in
theorem t_O_goTurnBack {G : GG} (v0 : Nat) (v1 : Nat) (h : Hp) : Mt G M_O_goTurnBack 3 [.ref v0, .ref v1] cI h (f_O_goTurnBack v0 v1 h) := by
  refine Mt.ofF (by decide +kernel) rfl (Rt.i rfl rfl) ?_
  show T G M_O_goTurnBack 3 cI 0 [(0, .ref v0), (1, .ref v1)] [] h _
  unfold f_O_goTurnBack
  refine q_aload_n (pc := 0) (dq D_O_goTurnBack_0_ok 0 rfl) rfl 1 rfl ?_
  refine q_ic0 (pc := 1) (dq D_O_goTurnBack_0_ok 1 rfl) ?_
  refine q_dup2 (pc := 2) (dq D_O_goTurnBack_0_ok 2 rfl) rfl rfl ?_
  refine r_iald (pc := 3) (dq D_O_goTurnBack_0_ok 3 rfl) (fun x1 => ?_)
  refine q_ic1 (pc := 4) (dq D_O_goTurnBack_0_ok 4 rfl) ?_
  refine q_isub (pc := 5) (dq D_O_goTurnBack_0_ok 5 rfl) ?_
  refine r_iast (pc := 6) (dq D_O_goTurnBack_0_ok 6 rfl) (fun h2 => ?_)
  refine q_aload_n (pc := 7) (dq D_O_goTurnBack_0_ok 7 rfl) rfl 0 rfl ?_
  refine q_aload_n (pc := 8) (dq D_O_goTurnBack_0_ok 8 rfl) rfl 1 rfl ?_
  refine q_icm1 (pc := 9) (dq D_O_goTurnBack_0_ok 9 rfl) ?_
  refine r_invI (Mc := M_O_moveAll) (pc := 10) (ci := 2) (rest := []) 2 2 [.ref v1, .int ((-1))] (dq D_O_goTurnBack_0_ok 10 rfl) rfl rfl lc_O_moveAll lv_O_moveAll_ ml_O_101 rfl rfl rfl rfl (t_O_moveAll v0 v1 ((-1)) h2) (fun r4 h3 => ?_)
  exact r_reti (pc := 13) (dq D_O_goTurnBack_0_ok 11 rfl) rfl
noncomputable def f_G_makeMove (v0 : Nat) (v1 : Int32) (v2 : Int32) (h : Hp) : Option (Int32 × Hp) := gd (hS h v0 = some (.inl 9)) (bR (hR h v0 0) fun x1 => gd (ai h x1 6 (v2 + 1)) (bR (hR h x1 (v2 + 1).toNatClampNeg) fun x2 => gd (hS h v0 = some (.inl 9)) (bR (hR h v0 0) fun x3 => gd (ai h x3 6 v2) (bR (hR h x3 v2.toNatClampNeg) fun x4 => gd (cpok h x4 x2 0 0 8) (lt (uC h x4 x2 (0 : Int32).toNatClampNeg (0 : Int32).toNatClampNeg (8 : Int32).toNatClampNeg) fun h5 => if v1 = 0 then (gd (hS h5 v0 = some (.inl 9)) (bR (hR h5 v0 1) fun x10 => gd (hS h5 x10 = some (.inl 2)) (bd (f_O_goTurn x10 x2 h5) fun r12 h11 => gd (zb 1) (some (1, h11))))) else (if v1 = 2 then (gd (ai h5 x2 0 0) (lt (hI h5 x2 (0 : Int32).toNatClampNeg) fun x6 => if 0 < x6 then (gd (hS h5 v0 = some (.inl 9)) (bR (hR h5 v0 1) fun x7 => gd (hS h5 x7 = some (.inl 2)) (bd (f_O_goTurnBack x7 x2 h5) fun r9 h8 => gd (zb 1) (some (1, h8))))) else (gd (zb 0) (some (0, h5))))) else (gd (zb 1) (some (1, h5)))))))))
set_option maxHeartbeats 4000000 in
set_option maxRecDepth 20000 in
theorem t_G_makeMove {G : GG} (v0 : Nat) (v1 : Int32) (v2 : Int32) (h : Hp) : Mt G M_G_makeMove 4 [.ref v0, .int v1, .int v2] cI h (f_G_makeMove v0 v1 v2 h) := by
  refine Mt.ofF (by decide +kernel) rfl (Rt.z rfl rfl) ?_
  show T G M_G_makeMove 4 cI 0 [(0, .ref v0), (1, .int v1), (2, .int v2)] [] h _
  unfold f_G_makeMove
  refine q_aload_n (pc := 0) (dq D_G_makeMove_0_ok 0 rfl) rfl 0 rfl ?_
  refine q_getR (pc := 1) (dq D_G_makeMove_0_ok 1 rfl) fa_G_11 rfl (fun x1 => ?_)
  refine q_iload_n (pc := 4) (dq D_G_makeMove_0_ok 2 rfl) rfl 2 rfl ?_
  refine q_ic1 (pc := 5) (dq D_G_makeMove_0_ok 3 rfl) ?_
  refine q_iadd (pc := 6) (dq D_G_makeMove_0_ok 4 rfl) ?_
  refine r_aald (pc := 7) 6 (dq D_G_makeMove_0_ok 5 rfl) rfl rfl (fun _ => rfl) (fun x2 => ?_)
  refine q_astore_n (pc := 8) (ls' := [(3, .ref x2), (0, .ref v0), (1, .int v1), (2, .int v2)]) (dq D_G_makeMove_0_ok 6 rfl) rfl rfl rfl ?_
  refine q_aload_n (pc := 9) (dq D_G_makeMove_0_ok 7 rfl) rfl 1 rfl ?_
  refine q_getR (pc := 10) (dq D_G_makeMove_0_ok 8 rfl) fa_G_11 rfl (fun x3 => ?_)
  refine q_iload_n (pc := 13) (dq D_G_makeMove_0_ok 9 rfl) rfl 3 rfl ?_
  refine r_aald (pc := 14) 6 (dq D_G_makeMove_0_ok 10 rfl) rfl rfl (fun _ => rfl) (fun x4 => ?_)
  refine q_ic0 (pc := 15) (dq D_G_makeMove_0_ok 11 rfl) ?_
  refine q_aload_n (pc := 16) (dq D_G_makeMove_0_ok 12 rfl) rfl 0 rfl ?_
  refine q_ic0 (pc := 17) (dq D_G_makeMove_0_ok 13 rfl) ?_
  refine q_bipush (pc := 18) (v := 8) (dq D_G_makeMove_0_ok 14 rfl) (by decide) ?_
  refine r_copy (pc := 20) (dq D_G_makeMove_0_ok 15 rfl) lk_G_27 lac_n lac_s lac_i rfl rfl (fun h5 => ?_)
  refine q_iload_n (pc := 23) (dq D_G_makeMove_0_ok 16 rfl) rfl 2 rfl ?_
  refine p_if_ne (pc := 24) 39 (dq D_G_makeMove_0_ok 17 rfl) rfl ?_ ?_
  · refine q_iload_n (pc := 39) (dq D_G_makeMove_0_ok 24 rfl) rfl 2 rfl ?_
    refine q_ic2 (pc := 40) (dq D_G_makeMove_0_ok 25 rfl) ?_
    refine q_ic_ne (pc := 41) 61 (dq D_G_makeMove_0_ok 26 rfl) rfl ?_ ?_
    · refine q_ic1 (pc := 61) (dq D_G_makeMove_0_ok 38 rfl) ?_
      exact r_retz (pc := 62) (dq D_G_makeMove_0_ok 39 rfl) rfl
    · refine q_aload_n (pc := 44) (dq D_G_makeMove_0_ok 27 rfl) rfl 0 rfl ?_
      refine q_ic0 (pc := 45) (dq D_G_makeMove_0_ok 28 rfl) ?_
      refine r_iald (pc := 46) (dq D_G_makeMove_0_ok 29 rfl) (fun x6 => ?_)
      refine p_if_gt (pc := 47) 52 (dq D_G_makeMove_0_ok 30 rfl) rfl ?_ ?_
      · refine q_aload_n (pc := 52) (dq D_G_makeMove_0_ok 33 rfl) rfl 1 rfl ?_
        refine q_getR (pc := 53) (dq D_G_makeMove_0_ok 34 rfl) fa_G_16 rfl (fun x7 => ?_)
        refine q_aload_n (pc := 56) (dq D_G_makeMove_0_ok 35 rfl) rfl 0 rfl ?_
        refine r_invI (Mc := M_O_goTurnBack) (pc := 57) (ci := 2) (rest := []) 3 1 [.ref x2] (dq D_G_makeMove_0_ok 36 rfl) rfl rfl lc_O_goTurnBack lv_O_goTurnBack_ ml_G_51 rfl rfl rfl rfl (t_O_goTurnBack x7 x2 h5) (fun r9 h8 => ?_)
        refine q_pop (pc := 60) (dq D_G_makeMove_0_ok 37 rfl) rfl ?_
        refine q_ic1 (pc := 61) (dq D_G_makeMove_0_ok 38 rfl) ?_
        exact r_retz (pc := 62) (dq D_G_makeMove_0_ok 39 rfl) rfl
      · refine q_ic0 (pc := 50) (dq D_G_makeMove_0_ok 31 rfl) ?_
        exact r_retz (pc := 51) (dq D_G_makeMove_0_ok 32 rfl) rfl
  · refine q_aload_n (pc := 27) (dq D_G_makeMove_0_ok 18 rfl) rfl 1 rfl ?_
    refine q_getR (pc := 28) (dq D_G_makeMove_0_ok 19 rfl) fa_G_16 rfl (fun x10 => ?_)
    refine q_aload_n (pc := 31) (dq D_G_makeMove_0_ok 20 rfl) rfl 0 rfl ?_
    refine r_invI (Mc := M_O_goTurn) (pc := 32) (ci := 2) (rest := []) 3 1 [.ref x2] (dq D_G_makeMove_0_ok 21 rfl) rfl rfl lc_O_goTurn lv_O_goTurn_ ml_G_47 rfl rfl rfl rfl (t_O_goTurn x10 x2 h5) (fun r12 h11 => ?_)
    refine q_pop (pc := 35) (dq D_G_makeMove_0_ok 22 rfl) rfl ?_
    refine q_goto (pc := 36) 61 (dq D_G_makeMove_0_ok 23 rfl) rfl ?_
    refine q_ic1 (pc := 61) (dq D_G_makeMove_0_ok 38 rfl) ?_
    exact r_retz (pc := 62) (dq D_G_makeMove_0_ok 39 rfl) rfl
noncomputable def b_G_worth_153 (rc : Nat → Int32 → Int32 → Hp → Option (Int32 × Hp)) (k42 : (Nat × Int32 × Int32 × Int32 × Int32 × Int32 × Int32) → Hp → Option (Int32 × Hp)) (v0 : Nat) (v1 : Int32) (v2 : Int32) (v3 : Int32) (v4 : Int32) (v5 : Int32) (v6 : Int32) (h : Hp) : Option (Int32 × Hp) := k42 (v0, v1, v2, v3, v4, v5, v6 + 1) h
set_option maxHeartbeats 4000000 in
set_option maxRecDepth 20000 in
theorem tb_G_worth_153 {G : GG} {dr : Nat} (hdr : 5 ≤ dr) {rc : Nat → Int32 → Int32 → Hp → Option (Int32 × Hp)} (hrc : ∀ v0 v1 v2 h, Mt G M_G_worth dr [.ref v0, .int v1, .int v2] cI h (rc v0 v1 v2 h)) {k42 : (Nat × Int32 × Int32 × Int32 × Int32 × Int32 × Int32) → Hp → Option (Int32 × Hp)} (hk42 : ∀ s h, T G M_G_worth (dr + 1) cI 42 [(0, .ref s.1), (1, .int s.2.1), (2, .int s.2.2.1), (3, .int s.2.2.2.1), (4, .int s.2.2.2.2.1), (5, .int s.2.2.2.2.2.1), (6, .int s.2.2.2.2.2.2)] [] h (k42 s h)) (v0 : Nat) (v1 : Int32) (v2 : Int32) (v3 : Int32) (v4 : Int32) (v5 : Int32) (v6 : Int32) (h : Hp) : T G M_G_worth (dr + 1) cI 153 [(0, .ref v0), (1, .int v1), (2, .int v2), (3, .int v3), (4, .int v4), (5, .int v5), (6, .int v6)] [] h (b_G_worth_153 rc k42 v0 v1 v2 v3 v4 v5 v6 h) := by
  unfold b_G_worth_153
  refine q_iinc (pc := 153) (v := (1)) (ls' := [(6, .int (v6 + 1)), (0, .ref v0), (1, .int v1), (2, .int v2), (3, .int v3), (4, .int v4), (5, .int v5)]) (dq D_G_worth_1_ok 24 rfl) 6 rfl (by decide) rfl rfl ?_
  refine q_goto (pc := 156) 42 (dq D_G_worth_1_ok 25 rfl) rfl ?_
  exact T.lsub [1, 2, 3, 4, 5, 6, 0] rfl (hk42 (v0, v1, v2, v3, v4, v5, v6 + 1) h)
noncomputable def b_G_worth_150 (rc : Nat → Int32 → Int32 → Hp → Option (Int32 × Hp)) (k42 : (Nat × Int32 × Int32 × Int32 × Int32 × Int32 × Int32) → Hp → Option (Int32 × Hp)) (v0 : Nat) (v1 : Int32) (v2 : Int32) (v3 : Int32) (v4 : Int32) (v5 : Int32) (v6 : Int32) (s0 : Int32) (s1 : Nat) (h : Hp) : Option (Int32 × Hp) := gd (hS h s1 = some (.inl 9)) (lt (uI h s1 3 s0) fun h1 => b_G_worth_153 rc k42 v0 v1 v2 v3 v4 v5 v6 h1)
set_option maxHeartbeats 4000000 in
set_option maxRecDepth 20000 in
theorem tb_G_worth_150 {G : GG} {dr : Nat} (hdr : 5 ≤ dr) {rc : Nat → Int32 → Int32 → Hp → Option (Int32 × Hp)} (hrc : ∀ v0 v1 v2 h, Mt G M_G_worth dr [.ref v0, .int v1, .int v2] cI h (rc v0 v1 v2 h)) {k42 : (Nat × Int32 × Int32 × Int32 × Int32 × Int32 × Int32) → Hp → Option (Int32 × Hp)} (hk42 : ∀ s h, T G M_G_worth (dr + 1) cI 42 [(0, .ref s.1), (1, .int s.2.1), (2, .int s.2.2.1), (3, .int s.2.2.2.1), (4, .int s.2.2.2.2.1), (5, .int s.2.2.2.2.2.1), (6, .int s.2.2.2.2.2.2)] [] h (k42 s h)) (v0 : Nat) (v1 : Int32) (v2 : Int32) (v3 : Int32) (v4 : Int32) (v5 : Int32) (v6 : Int32) (s0 : Int32) (s1 : Nat) (h : Hp) : T G M_G_worth (dr + 1) cI 150 [(0, .ref v0), (1, .int v1), (2, .int v2), (3, .int v3), (4, .int v4), (5, .int v5), (6, .int v6)] [.int s0, .ref s1] h (b_G_worth_150 rc k42 v0 v1 v2 v3 v4 v5 v6 s0 s1 h) := by
  unfold b_G_worth_150
  refine r_putI (pc := 150) (dq D_G_worth_1_ok 23 rfl) fp_G_24 rfl rfl (fun h1 => ?_)
  exact T.lsub [0, 1, 2, 3, 4, 5, 6] rfl (tb_G_worth_153 hdr hrc hk42 v0 v1 v2 v3 v4 v5 v6 h1)
noncomputable def b_G_worth_132 (rc : Nat → Int32 → Int32 → Hp → Option (Int32 × Hp)) (k42 : (Nat × Int32 × Int32 × Int32 × Int32 × Int32 × Int32) → Hp → Option (Int32 × Hp)) (v0 : Nat) (v1 : Int32) (v2 : Int32) (v3 : Int32) (v4 : Int32) (v6 : Int32) (v7 : Int32) (h : Hp) : Option (Int32 × Hp) := if v2 = 0 then (b_G_worth_150 rc k42 v0 v1 v2 v3 v4 v7 v6 v6 v0 h) else (gd (hS h v0 = some (.inl 9)) (lt (hI h v0 3) fun x1 => b_G_worth_150 rc k42 v0 v1 v2 v3 v4 v7 v6 x1 v0 h))
set_option maxHeartbeats 4000000 in
set_option maxRecDepth 20000 in
theorem tb_G_worth_132 {G : GG} {dr : Nat} (hdr : 5 ≤ dr) {rc : Nat → Int32 → Int32 → Hp → Option (Int32 × Hp)} (hrc : ∀ v0 v1 v2 h, Mt G M_G_worth dr [.ref v0, .int v1, .int v2] cI h (rc v0 v1 v2 h)) {k42 : (Nat × Int32 × Int32 × Int32 × Int32 × Int32 × Int32) → Hp → Option (Int32 × Hp)} (hk42 : ∀ s h, T G M_G_worth (dr + 1) cI 42 [(0, .ref s.1), (1, .int s.2.1), (2, .int s.2.2.1), (3, .int s.2.2.2.1), (4, .int s.2.2.2.2.1), (5, .int s.2.2.2.2.2.1), (6, .int s.2.2.2.2.2.2)] [] h (k42 s h)) (v0 : Nat) (v1 : Int32) (v2 : Int32) (v3 : Int32) (v4 : Int32) (v6 : Int32) (v7 : Int32) (h : Hp) : T G M_G_worth (dr + 1) cI 132 [(0, .ref v0), (1, .int v1), (2, .int v2), (3, .int v3), (4, .int v4), (6, .int v6), (7, .int v7)] [] h (b_G_worth_132 rc k42 v0 v1 v2 v3 v4 v6 v7 h) := by
  unfold b_G_worth_132
  refine q_iload (pc := 132) (dq D_G_worth_1_ok 14 rfl) 6 rfl ?_
  refine q_istore (pc := 134) (ls' := [(5, .int v7), (0, .ref v0), (1, .int v1), (2, .int v2), (3, .int v3), (4, .int v4), (6, .int v6), (7, .int v7)]) (dq D_G_worth_1_ok 15 rfl) rfl rfl ?_
  refine q_aload_n (pc := 136) (dq D_G_worth_1_ok 16 rfl) rfl 1 rfl ?_
  refine q_iload_n (pc := 137) (dq D_G_worth_1_ok 17 rfl) rfl 3 rfl ?_
  refine p_if_ne (pc := 138) 146 (dq D_G_worth_1_ok 18 rfl) rfl ?_ ?_
  · refine q_aload_n (pc := 146) (dq D_G_worth_1_ok 21 rfl) rfl 1 rfl ?_
    refine r_getI (pc := 147) (dq D_G_worth_1_ok 22 rfl) fa_G_24 rfl (fun x1 => ?_)
    exact T.lsub [1, 2, 3, 4, 5, 0, 6] rfl (tb_G_worth_150 hdr hrc hk42 v0 v1 v2 v3 v4 v7 v6 x1 v0 h)
  · refine q_iload (pc := 141) (dq D_G_worth_1_ok 19 rfl) 6 rfl ?_
    refine q_goto (pc := 143) 150 (dq D_G_worth_1_ok 20 rfl) rfl ?_
    exact T.lsub [1, 2, 3, 4, 5, 0, 6] rfl (tb_G_worth_150 hdr hrc hk42 v0 v1 v2 v3 v4 v7 v6 v6 v0 h)
noncomputable def b_G_worth_102 (rc : Nat → Int32 → Int32 → Hp → Option (Int32 × Hp)) (k42 : (Nat × Int32 × Int32 × Int32 × Int32 × Int32 × Int32) → Hp → Option (Int32 × Hp)) (v0 : Nat) (v1 : Int32) (v2 : Int32) (v3 : Int32) (v4 : Int32) (v5 : Int32) (v6 : Int32) (s0 : Int32) (s1 : Int32) (h : Hp) : Option (Int32 × Hp) := lt (s1 + s0 : Int32) fun y1 => if v5 = ((-1)) then (b_G_worth_132 rc k42 v0 v1 v2 v3 v4 v6 y1 h) else (if v3 = 0 then (if v5 ≤ y1 then (b_G_worth_153 rc k42 v0 v1 v2 v3 v4 v5 v6 h) else (b_G_worth_132 rc k42 v0 v1 v2 v3 v4 v6 y1 h)) else (if y1 ≤ v5 then (b_G_worth_153 rc k42 v0 v1 v2 v3 v4 v5 v6 h) else (b_G_worth_132 rc k42 v0 v1 v2 v3 v4 v6 y1 h)))
set_option maxHeartbeats 4000000 in
set_option maxRecDepth 20000 in
theorem tb_G_worth_102 {G : GG} {dr : Nat} (hdr : 5 ≤ dr) {rc : Nat → Int32 → Int32 → Hp → Option (Int32 × Hp)} (hrc : ∀ v0 v1 v2 h, Mt G M_G_worth dr [.ref v0, .int v1, .int v2] cI h (rc v0 v1 v2 h)) {k42 : (Nat × Int32 × Int32 × Int32 × Int32 × Int32 × Int32) → Hp → Option (Int32 × Hp)} (hk42 : ∀ s h, T G M_G_worth (dr + 1) cI 42 [(0, .ref s.1), (1, .int s.2.1), (2, .int s.2.2.1), (3, .int s.2.2.2.1), (4, .int s.2.2.2.2.1), (5, .int s.2.2.2.2.2.1), (6, .int s.2.2.2.2.2.2)] [] h (k42 s h)) (v0 : Nat) (v1 : Int32) (v2 : Int32) (v3 : Int32) (v4 : Int32) (v5 : Int32) (v6 : Int32) (s0 : Int32) (s1 : Int32) (h : Hp) : T G M_G_worth (dr + 1) cI 102 [(0, .ref v0), (1, .int v1), (2, .int v2), (3, .int v3), (4, .int v4), (5, .int v5), (6, .int v6)] [.int s0, .int s1] h (b_G_worth_102 rc k42 v0 v1 v2 v3 v4 v5 v6 s0 s1 h) := by
  unfold b_G_worth_102
  refine q_iadd (pc := 102) (dq D_G_worth_1_ok 0 rfl) ?_
  refine r_nmI (fun y1 => ?_)
  refine q_istore (pc := 103) (ls' := [(7, .int y1), (0, .ref v0), (1, .int v1), (2, .int v2), (3, .int v3), (4, .int v4), (5, .int v5), (6, .int v6)]) (dq D_G_worth_1_ok 1 rfl) rfl rfl ?_
  refine q_iload (pc := 105) (dq D_G_worth_1_ok 2 rfl) 6 rfl ?_
  refine q_icm1 (pc := 107) (dq D_G_worth_1_ok 3 rfl) ?_
  refine q_ic_eq (pc := 108) 132 (dq D_G_worth_1_ok 4 rfl) rfl ?_ ?_
  · exact T.lsub [1, 2, 3, 4, 5, 7, 0] rfl (tb_G_worth_132 hdr hrc hk42 v0 v1 v2 v3 v4 v6 y1 h)
  · refine q_iload_n (pc := 111) (dq D_G_worth_1_ok 5 rfl) rfl 4 rfl ?_
    refine p_if_eq (pc := 112) 125 (dq D_G_worth_1_ok 6 rfl) rfl ?_ ?_
    · refine q_iload (pc := 125) (dq D_G_worth_1_ok 11 rfl) 0 rfl ?_
      refine q_iload (pc := 127) (dq D_G_worth_1_ok 12 rfl) 6 rfl ?_
      refine q_ic_ge (pc := 129) 153 (dq D_G_worth_1_ok 13 rfl) rfl ?_ ?_
      · exact T.lsub [1, 2, 3, 4, 5, 6, 7] rfl (tb_G_worth_153 hdr hrc hk42 v0 v1 v2 v3 v4 v5 v6 h)
      · exact T.lsub [1, 2, 3, 4, 5, 7, 0] rfl (tb_G_worth_132 hdr hrc hk42 v0 v1 v2 v3 v4 v6 y1 h)
    · refine q_iload (pc := 115) (dq D_G_worth_1_ok 7 rfl) 0 rfl ?_
      refine q_iload (pc := 117) (dq D_G_worth_1_ok 8 rfl) 6 rfl ?_
      refine q_ic_le (pc := 119) 153 (dq D_G_worth_1_ok 9 rfl) rfl ?_ ?_
      · exact T.lsub [1, 2, 3, 4, 5, 6, 7] rfl (tb_G_worth_153 hdr hrc hk42 v0 v1 v2 v3 v4 v5 v6 h)
      · refine q_goto (pc := 122) 132 (dq D_G_worth_1_ok 10 rfl) rfl ?_
        exact T.lsub [1, 2, 3, 4, 5, 7, 0] rfl (tb_G_worth_132 hdr hrc hk42 v0 v1 v2 v3 v4 v6 y1 h)
noncomputable def b_G_worth_42 (rc : Nat → Int32 → Int32 → Hp → Option (Int32 × Hp)) (k42 : (Nat × Int32 × Int32 × Int32 × Int32 × Int32 × Int32) → Hp → Option (Int32 × Hp)) (v0 : Nat) (v1 : Int32) (v2 : Int32) (v3 : Int32) (v4 : Int32) (v5 : Int32) (v6 : Int32) (h : Hp) : Option (Int32 × Hp) := if 3 ≤ v6 then (some (v5, h)) else (if v5 = v4 then (some (v5, h)) else (gd (hS h v0 = some (.inl 9)) (bd (f_G_makeMove v0 v6 v2 h) fun r2 h1 => if r2 = 0 then (b_G_worth_153 rc k42 v0 v1 v2 v3 v4 v5 v6 h1) else (gd (hS h1 v0 = some (.inl 9)) (bd (rc v0 (v1 - 1) (v2 + 1) h1) fun r4 h3 => gd (hS h3 v0 = some (.inl 9)) (bR (hR h3 v0 1) fun x5 => gd (hS h3 v0 = some (.inl 9)) (lt (hI h3 v0 2) fun x6 => gd (hS h3 v0 = some (.inl 9)) (bR (hR h3 v0 0) fun x7 => gd (ai h3 x7 6 (v2 + 1)) (bR (hR h3 x7 (v2 + 1).toNatClampNeg) fun x8 => gd (hS h3 x5 = some (.inl 2)) (bd (f_O_isOn x5 x6 x8 h3) fun r10 h9 => if r10 = 0 then (b_G_worth_102 rc k42 v0 v1 v2 v3 v4 v5 v6 0 r4 h9) else (b_G_worth_102 rc k42 v0 v1 v2 v3 v4 v5 v6 1 r4 h9)))))))))))
set_option maxHeartbeats 4000000 in
set_option maxRecDepth 20000 in
theorem tb_G_worth_42 {G : GG} {dr : Nat} (hdr : 5 ≤ dr) {rc : Nat → Int32 → Int32 → Hp → Option (Int32 × Hp)} (hrc : ∀ v0 v1 v2 h, Mt G M_G_worth dr [.ref v0, .int v1, .int v2] cI h (rc v0 v1 v2 h)) {k42 : (Nat × Int32 × Int32 × Int32 × Int32 × Int32 × Int32) → Hp → Option (Int32 × Hp)} (hk42 : ∀ s h, T G M_G_worth (dr + 1) cI 42 [(0, .ref s.1), (1, .int s.2.1), (2, .int s.2.2.1), (3, .int s.2.2.2.1), (4, .int s.2.2.2.2.1), (5, .int s.2.2.2.2.2.1), (6, .int s.2.2.2.2.2.2)] [] h (k42 s h)) (v0 : Nat) (v1 : Int32) (v2 : Int32) (v3 : Int32) (v4 : Int32) (v5 : Int32) (v6 : Int32) (h : Hp) : T G M_G_worth (dr + 1) cI 42 [(0, .ref v0), (1, .int v1), (2, .int v2), (3, .int v3), (4, .int v4), (5, .int v5), (6, .int v6)] [] h (b_G_worth_42 rc k42 v0 v1 v2 v3 v4 v5 v6 h) := by
  unfold b_G_worth_42
  refine q_iload (pc := 42) (dq D_G_worth_0_ok 26 rfl) 6 rfl ?_
  refine q_ic3 (pc := 44) (dq D_G_worth_0_ok 27 rfl) ?_
  refine q_ic_ge (pc := 45) 159 (dq D_G_worth_0_ok 28 rfl) rfl ?_ ?_
  · refine q_iload (pc := 159) (dq D_G_worth_1_ok 26 rfl) 5 rfl ?_
    exact r_reti (pc := 161) (dq D_G_worth_1_ok 27 rfl) rfl
  · refine q_iload (pc := 48) (dq D_G_worth_0_ok 29 rfl) 5 rfl ?_
    refine q_iload (pc := 50) (dq D_G_worth_0_ok 30 rfl) 4 rfl ?_
    refine q_ic_eq (pc := 52) 159 (dq D_G_worth_0_ok 31 rfl) rfl ?_ ?_
    · refine q_iload (pc := 159) (dq D_G_worth_1_ok 26 rfl) 5 rfl ?_
      exact r_reti (pc := 161) (dq D_G_worth_1_ok 27 rfl) rfl
    · refine q_aload_n (pc := 55) (dq D_G_worth_0_ok 32 rfl) rfl 0 rfl ?_
      refine q_iload (pc := 56) (dq D_G_worth_0_ok 33 rfl) 6 rfl ?_
      refine q_iload_n (pc := 58) (dq D_G_worth_0_ok 34 rfl) rfl 2 rfl ?_
      refine r_invI (Mc := M_G_makeMove) (pc := 59) (ci := 9) (rest := []) 4 2 [.int v6, .int v2] (dq D_G_worth_0_ok 35 rfl) rfl rfl lc_G_makeMove lv_G_makeMove_ ml_G_37 (Nat.ble_eq_true_of_le (by omega)) rfl rfl rfl (t_G_makeMove v0 v6 v2 h) (fun r2 h1 => ?_)
      refine p_if_eq (pc := 62) 153 (dq D_G_worth_0_ok 36 rfl) rfl ?_ ?_
      · exact T.lsub [0, 1, 2, 3, 4, 5, 6] rfl (tb_G_worth_153 hdr hrc hk42 v0 v1 v2 v3 v4 v5 v6 h1)
      · refine q_aload_n (pc := 65) (dq D_G_worth_0_ok 37 rfl) rfl 0 rfl ?_
        refine q_iload_n (pc := 66) (dq D_G_worth_0_ok 38 rfl) rfl 1 rfl ?_
        refine q_ic1 (pc := 67) (dq D_G_worth_0_ok 39 rfl) ?_
        refine q_isub (pc := 68) (dq D_G_worth_0_ok 40 rfl) ?_
        refine q_iload_n (pc := 69) (dq D_G_worth_0_ok 41 rfl) rfl 2 rfl ?_
        refine q_ic1 (pc := 70) (dq D_G_worth_0_ok 42 rfl) ?_
        refine q_iadd (pc := 71) (dq D_G_worth_0_ok 43 rfl) ?_
        refine r_invI (Mc := M_G_worth) (pc := 72) (ci := 9) (rest := []) dr 2 [.int (v1 - 1), .int (v2 + 1)] (dq D_G_worth_0_ok 44 rfl) rfl rfl lc_G_worth lv_G_worth_ ml_G_33 (Nat.ble_eq_true_of_le (by omega)) rfl rfl rfl (hrc v0 (v1 - 1) (v2 + 1) h1) (fun r4 h3 => ?_)
        refine q_aload_n (pc := 75) (dq D_G_worth_0_ok 45 rfl) rfl 0 rfl ?_
        refine q_getR (pc := 76) (dq D_G_worth_0_ok 46 rfl) fa_G_16 rfl (fun x5 => ?_)
        refine q_aload_n (pc := 79) (dq D_G_worth_0_ok 47 rfl) rfl 0 rfl ?_
        refine r_getI (pc := 80) (dq D_G_worth_0_ok 48 rfl) fa_G_20 rfl (fun x6 => ?_)
        refine q_aload_n (pc := 83) (dq D_G_worth_0_ok 49 rfl) rfl 0 rfl ?_
        refine q_getR (pc := 84) (dq D_G_worth_0_ok 50 rfl) fa_G_11 rfl (fun x7 => ?_)
        refine q_iload_n (pc := 87) (dq D_G_worth_0_ok 51 rfl) rfl 2 rfl ?_
        refine q_ic1 (pc := 88) (dq D_G_worth_0_ok 52 rfl) ?_
        refine q_iadd (pc := 89) (dq D_G_worth_0_ok 53 rfl) ?_
        refine r_aald (pc := 90) 6 (dq D_G_worth_0_ok 54 rfl) rfl rfl (fun _ => rfl) (fun x8 => ?_)
        refine r_invI (Mc := M_O_isOn) (pc := 91) (ci := 2) (rest := [.int r4]) 1 2 [.int x6, .ref x8] (dq D_G_worth_0_ok 55 rfl) rfl rfl lc_O_isOn lv_O_isOn_ ml_G_41 (Nat.ble_eq_true_of_le (by omega)) rfl rfl rfl (t_O_isOn x5 x6 x8 h3) (fun r10 h9 => ?_)
        refine p_if_eq (pc := 94) 101 (dq D_G_worth_0_ok 56 rfl) rfl ?_ ?_
        · refine q_ic0 (pc := 101) (dq D_G_worth_0_ok 59 rfl) ?_
          exact T.lsub [0, 1, 2, 3, 4, 5, 6] rfl (tb_G_worth_102 hdr hrc hk42 v0 v1 v2 v3 v4 v5 v6 0 r4 h9)
        · refine q_ic1 (pc := 97) (dq D_G_worth_0_ok 57 rfl) ?_
          refine q_goto (pc := 98) 102 (dq D_G_worth_0_ok 58 rfl) rfl ?_
          exact T.lsub [0, 1, 2, 3, 4, 5, 6] rfl (tb_G_worth_102 hdr hrc hk42 v0 v1 v2 v3 v4 v5 v6 1 r4 h9)
noncomputable def l_G_worth_42 (rc : Nat → Int32 → Int32 → Hp → Option (Int32 × Hp)) : Nat → (Nat × Int32 × Int32 × Int32 × Int32 × Int32 × Int32) → Hp → Option (Int32 × Hp) := lp (fun k42 s h => b_G_worth_42 rc k42 s.1 s.2.1 s.2.2.1 s.2.2.2.1 s.2.2.2.2.1 s.2.2.2.2.2.1 s.2.2.2.2.2.2 h)
set_option maxHeartbeats 4000000 in
set_option maxRecDepth 20000 in
theorem tl_G_worth_42 {G : GG} {dr : Nat} (hdr : 5 ≤ dr) {rc : Nat → Int32 → Int32 → Hp → Option (Int32 × Hp)} (hrc : ∀ v0 v1 v2 h, Mt G M_G_worth dr [.ref v0, .int v1, .int v2] cI h (rc v0 v1 v2 h)) (n : Nat) (s : Nat × Int32 × Int32 × Int32 × Int32 × Int32 × Int32) (h : Hp) : T G M_G_worth (dr + 1) cI 42 [(0, .ref s.1), (1, .int s.2.1), (2, .int s.2.2.1), (3, .int s.2.2.2.1), (4, .int s.2.2.2.2.1), (5, .int s.2.2.2.2.2.1), (6, .int s.2.2.2.2.2.2)] [] h (l_G_worth_42 rc n s h) :=
  T.loop (lsOf := fun s => [(0, .ref s.1), (1, .int s.2.1), (2, .int s.2.2.1), (3, .int s.2.2.2.1), (4, .int s.2.2.2.2.1), (5, .int s.2.2.2.2.2.1), (6, .int s.2.2.2.2.2.2)]) (fun k42 hk42 s h => tb_G_worth_42 hdr hrc hk42 s.1 s.2.1 s.2.2.1 s.2.2.2.1 s.2.2.2.2.1 s.2.2.2.2.2.1 s.2.2.2.2.2.2 h) n s h
noncomputable def b_G_worth_34 (rc : Nat → Int32 → Int32 → Hp → Option (Int32 × Hp)) (v0 : Nat) (v1 : Int32) (v2 : Int32) (v3 : Int32) (s0 : Int32) (h : Hp) : Option (Int32 × Hp) := lt ((-1) : Int32) fun y1 => lt (0 : Int32) fun y2 => l_G_worth_42 rc FU (v0, v1, v2, v3, s0, y1, y2) h
set_option maxHeartbeats 4000000 in
set_option maxRecDepth 20000 in
theorem tb_G_worth_34 {G : GG} {dr : Nat} (hdr : 5 ≤ dr) {rc : Nat → Int32 → Int32 → Hp → Option (Int32 × Hp)} (hrc : ∀ v0 v1 v2 h, Mt G M_G_worth dr [.ref v0, .int v1, .int v2] cI h (rc v0 v1 v2 h)) (v0 : Nat) (v1 : Int32) (v2 : Int32) (v3 : Int32) (s0 : Int32) (h : Hp) : T G M_G_worth (dr + 1) cI 34 [(0, .ref v0), (1, .int v1), (2, .int v2), (3, .int v3)] [.int s0] h (b_G_worth_34 rc v0 v1 v2 v3 s0 h) := by
  unfold b_G_worth_34
  refine q_istore (pc := 34) (ls' := [(4, .int s0), (0, .ref v0), (1, .int v1), (2, .int v2), (3, .int v3)]) (dq D_G_worth_0_ok 21 rfl) rfl rfl ?_
  refine q_icm1 (pc := 36) (dq D_G_worth_0_ok 22 rfl) ?_
  refine r_nmI (fun y1 => ?_)
  refine q_istore (pc := 37) (ls' := [(5, .int y1), (4, .int s0), (0, .ref v0), (1, .int v1), (2, .int v2), (3, .int v3)]) (dq D_G_worth_0_ok 23 rfl) rfl rfl ?_
  refine q_ic0 (pc := 39) (dq D_G_worth_0_ok 24 rfl) ?_
  refine r_nmI (fun y2 => ?_)
  refine q_istore (pc := 40) (ls' := [(6, .int y2), (5, .int y1), (4, .int s0), (0, .ref v0), (1, .int v1), (2, .int v2), (3, .int v3)]) (dq D_G_worth_0_ok 25 rfl) rfl rfl ?_
  exact T.lsub [3, 4, 5, 6, 2, 1, 0] rfl (tl_G_worth_42 hdr hrc FU (v0, v1, v2, v3, s0, y1, y2) h)
noncomputable def b_G_worth_24 (rc : Nat → Int32 → Int32 → Hp → Option (Int32 × Hp)) (v0 : Nat) (v1 : Int32) (v2 : Int32) (s0 : Int32) (h : Hp) : Option (Int32 × Hp) := if s0 = 0 then (b_G_worth_34 rc v0 v1 v2 s0 0 h) else (b_G_worth_34 rc v0 v1 v2 s0 v1 h)
set_option maxHeartbeats 4000000 in
set_option maxRecDepth 20000 in
theorem tb_G_worth_24 {G : GG} {dr : Nat} (hdr : 5 ≤ dr) {rc : Nat → Int32 → Int32 → Hp → Option (Int32 × Hp)} (hrc : ∀ v0 v1 v2 h, Mt G M_G_worth dr [.ref v0, .int v1, .int v2] cI h (rc v0 v1 v2 h)) (v0 : Nat) (v1 : Int32) (v2 : Int32) (s0 : Int32) (h : Hp) : T G M_G_worth (dr + 1) cI 24 [(0, .ref v0), (1, .int v1), (2, .int v2)] [.int s0] h (b_G_worth_24 rc v0 v1 v2 s0 h) := by
  unfold b_G_worth_24
  refine q_istore_n (pc := 24) (ls' := [(3, .int s0), (0, .ref v0), (1, .int v1), (2, .int v2)]) (dq D_G_worth_0_ok 15 rfl) rfl rfl rfl ?_
  refine q_iload_n (pc := 25) (dq D_G_worth_0_ok 16 rfl) rfl 0 rfl ?_
  refine p_if_eq (pc := 26) 33 (dq D_G_worth_0_ok 17 rfl) rfl ?_ ?_
  · refine q_ic0 (pc := 33) (dq D_G_worth_0_ok 20 rfl) ?_
    exact T.lsub [1, 2, 3, 0] rfl (tb_G_worth_34 hdr hrc v0 v1 v2 s0 0 h)
  · refine q_iload_n (pc := 29) (dq D_G_worth_0_ok 18 rfl) rfl 2 rfl ?_
    refine q_goto (pc := 30) 34 (dq D_G_worth_0_ok 19 rfl) rfl ?_
    exact T.lsub [1, 2, 3, 0] rfl (tb_G_worth_34 hdr hrc v0 v1 v2 s0 v1 h)
noncomputable def g_G_worth (rc : Nat → Int32 → Int32 → Hp → Option (Int32 × Hp)) (v0 : Nat) (v1 : Int32) (v2 : Int32) (h : Hp) : Option (Int32 × Hp) := if v1 ≤ 0 then (some (0, h)) else (if v2 < 6 then (if (v2 &&& 1) = 1 then (b_G_worth_24 rc v0 v1 v2 1 h) else (b_G_worth_24 rc v0 v1 v2 0 h)) else (some (0, h)))
set_option maxHeartbeats 4000000 in
set_option maxRecDepth 20000 in
theorem tg_G_worth {G : GG} {dr : Nat} (hdr : 5 ≤ dr) {rc : Nat → Int32 → Int32 → Hp → Option (Int32 × Hp)} (hrc : ∀ v0 v1 v2 h, Mt G M_G_worth dr [.ref v0, .int v1, .int v2] cI h (rc v0 v1 v2 h)) (v0 : Nat) (v1 : Int32) (v2 : Int32) (h : Hp) : Mt G M_G_worth (dr + 1) [.ref v0, .int v1, .int v2] cI h (g_G_worth rc v0 v1 v2 h) := by
  refine Mt.ofF (by decide +kernel) rfl (Rt.i rfl rfl) ?_
  show T G M_G_worth (dr + 1) cI 0 [(0, .ref v0), (1, .int v1), (2, .int v2)] [] h _
  unfold g_G_worth
  refine q_iload_n (pc := 0) (dq D_G_worth_0_ok 0 rfl) rfl 1 rfl ?_
  refine p_if_le (pc := 1) 10 (dq D_G_worth_0_ok 1 rfl) rfl ?_ ?_
  · refine q_ic0 (pc := 10) (dq D_G_worth_0_ok 5 rfl) ?_
    exact r_reti (pc := 11) (dq D_G_worth_0_ok 6 rfl) rfl
  · refine q_iload_n (pc := 4) (dq D_G_worth_0_ok 2 rfl) rfl 2 rfl ?_
    refine q_bipush (pc := 5) (v := 6) (dq D_G_worth_0_ok 3 rfl) (by decide) ?_
    refine q_ic_lt (pc := 7) 12 (dq D_G_worth_0_ok 4 rfl) rfl ?_ ?_
    · refine q_iload_n (pc := 12) (dq D_G_worth_0_ok 7 rfl) rfl 2 rfl ?_
      refine q_ic1 (pc := 13) (dq D_G_worth_0_ok 8 rfl) ?_
      refine q_iand (pc := 14) (dq D_G_worth_0_ok 9 rfl) ?_
      refine q_ic1 (pc := 15) (dq D_G_worth_0_ok 10 rfl) ?_
      refine q_ic_ne (pc := 16) 23 (dq D_G_worth_0_ok 11 rfl) rfl ?_ ?_
      · refine q_ic0 (pc := 23) (dq D_G_worth_0_ok 14 rfl) ?_
        exact T.lsub [0, 1, 2] rfl (tb_G_worth_24 hdr hrc v0 v1 v2 0 h)
      · refine q_ic1 (pc := 19) (dq D_G_worth_0_ok 12 rfl) ?_
        refine q_goto (pc := 20) 24 (dq D_G_worth_0_ok 13 rfl) rfl ?_
        exact T.lsub [0, 1, 2] rfl (tb_G_worth_24 hdr hrc v0 v1 v2 1 h)
    · refine q_ic0 (pc := 10) (dq D_G_worth_0_ok 5 rfl) ?_
      exact r_reti (pc := 11) (dq D_G_worth_0_ok 6 rfl) rfl
noncomputable def f_G_worth_n : Nat → Nat → Int32 → Int32 → Hp → Option (Int32 × Hp)
  | 0 => fun _ _ _ _ => none
  | n + 1 => g_G_worth (f_G_worth_n n)
set_option maxHeartbeats 4000000 in
set_option maxRecDepth 20000 in
theorem t_G_worth_n {G : GG} (n : Nat) : ∀ (v0 : Nat) (v1 : Int32) (v2 : Int32) (h : Hp), Mt G M_G_worth (5 + n) [.ref v0, .int v1, .int v2] cI h (f_G_worth_n n v0 v1 v2 h) := by
  induction n with
  | zero => intro v0 v1 v2 h r h' hF; cases hF
  | succ n ih => intro v0 v1 v2 h; exact tg_G_worth (by omega) ih v0 v1 v2 h
noncomputable def f_G_worth (v0 : Nat) (v1 : Int32) (v2 : Int32) (h : Hp) : Option (Int32 × Hp) := f_G_worth_n 8 v0 v1 v2 h
set_option maxHeartbeats 4000000 in
set_option maxRecDepth 20000 in
theorem t_G_worth {G : GG} (v0 : Nat) (v1 : Int32) (v2 : Int32) (h : Hp) : Mt G M_G_worth 13 [.ref v0, .int v1, .int v2] cI h (f_G_worth v0 v1 v2 h) := t_G_worth_n 8 v0 v1 v2 h
noncomputable def f_G_play (v0 : Nat) (v1 : Nat) (v2 : Nat) (v3 : Int32) (v4 : Int32) (h : Hp) : Option (Int32 × Hp) := gd (hS h v0 = some (.inl 9)) (lt (uR h v0 1 (some v1)) fun h1 => gd (hS h1 v0 = some (.inl 9)) (lt (uI h1 v0 2 v3) fun h2 => gd (hS h2 v0 = some (.inl 9)) (lt (uI h2 v0 3 0) fun h3 => gd (hS h3 v0 = some (.inl 9)) (bR (hR h3 v0 0) fun x4 => gd (ai h3 x4 6 0) (bR (hR h3 x4 (0 : Int32).toNatClampNeg) fun x5 => gd (cpok h3 v2 x5 0 0 8) (lt (uC h3 v2 x5 (0 : Int32).toNatClampNeg (0 : Int32).toNatClampNeg (8 : Int32).toNatClampNeg) fun h6 => gd (hS h6 v0 = some (.inl 9)) (bd (f_G_worth v0 v4 (0 : Int32) h6) fun r8 h7 => some (r8, h7))))))))
set_option maxHeartbeats 4000000 in
set_option maxRecDepth 20000 in
theorem t_G_play {G : GG} (v0 : Nat) (v1 : Nat) (v2 : Nat) (v3 : Int32) (v4 : Int32) (h : Hp) : Mt G M_G_play 14 [.ref v0, .ref v1, .ref v2, .int v3, .int v4] cI h (f_G_play v0 v1 v2 v3 v4 h) := by
  refine Mt.ofF (by decide +kernel) rfl (Rt.i rfl rfl) ?_
  show T G M_G_play 14 cI 0 [(0, .ref v0), (1, .ref v1), (2, .ref v2), (3, .int v3), (4, .int v4)] [] h _
  unfold f_G_play
  refine q_aload_n (pc := 0) (dq D_G_play_0_ok 0 rfl) rfl 0 rfl ?_
  refine q_aload_n (pc := 1) (dq D_G_play_0_ok 1 rfl) rfl 1 rfl ?_
  refine r_putR (pc := 2) (dq D_G_play_0_ok 2 rfl) fp_G_16 rfl rfl rfl (fun h1 => ?_)
  refine q_aload_n (pc := 5) (dq D_G_play_0_ok 3 rfl) rfl 0 rfl ?_
  refine q_iload_n (pc := 6) (dq D_G_play_0_ok 4 rfl) rfl 3 rfl ?_
  refine r_putI (pc := 7) (dq D_G_play_0_ok 5 rfl) fp_G_20 rfl rfl (fun h2 => ?_)
  refine q_aload_n (pc := 10) (dq D_G_play_0_ok 6 rfl) rfl 0 rfl ?_
  refine q_ic0 (pc := 11) (dq D_G_play_0_ok 7 rfl) ?_
  refine r_putI (pc := 12) (dq D_G_play_0_ok 8 rfl) fp_G_24 rfl rfl (fun h3 => ?_)
  refine q_aload_n (pc := 15) (dq D_G_play_0_ok 9 rfl) rfl 2 rfl ?_
  refine q_ic0 (pc := 16) (dq D_G_play_0_ok 10 rfl) ?_
  refine q_aload_n (pc := 17) (dq D_G_play_0_ok 11 rfl) rfl 0 rfl ?_
  refine q_getR (pc := 18) (dq D_G_play_0_ok 12 rfl) fa_G_11 rfl (fun x4 => ?_)
  refine q_ic0 (pc := 21) (dq D_G_play_0_ok 13 rfl) ?_
  refine r_aald (pc := 22) 6 (dq D_G_play_0_ok 14 rfl) rfl rfl (fun _ => rfl) (fun x5 => ?_)
  refine q_ic0 (pc := 23) (dq D_G_play_0_ok 15 rfl) ?_
  refine q_bipush (pc := 24) (v := 8) (dq D_G_play_0_ok 16 rfl) (by decide) ?_
  refine r_copy (pc := 26) (dq D_G_play_0_ok 17 rfl) lk_G_27 lac_n lac_s lac_i rfl rfl (fun h6 => ?_)
  refine q_aload_n (pc := 29) (dq D_G_play_0_ok 18 rfl) rfl 0 rfl ?_
  refine q_iload (pc := 30) (dq D_G_play_0_ok 19 rfl) 4 rfl ?_
  refine q_ic0 (pc := 32) (dq D_G_play_0_ok 20 rfl) ?_
  refine r_invI (Mc := M_G_worth) (pc := 33) (ci := 9) (rest := []) 13 2 [.int v4, .int 0] (dq D_G_play_0_ok 21 rfl) rfl rfl lc_G_worth lv_G_worth_ ml_G_33 rfl rfl rfl rfl (t_G_worth v0 v4 (0 : Int32) h6) (fun r8 h7 => ?_)
  exact r_reti (pc := 36) (dq D_G_play_0_ok 22 rfl) rfl
noncomputable def b_B_value_24 (v0 : Nat) (h : Hp) : Option (Int32 × Hp) := gd (hS h v0 = some (.inl 0)) (bd (f_B_refuse v0 (2 : Int32) h) fun r2 h1 => some (r2, h1))
set_option maxHeartbeats 4000000 in
set_option maxRecDepth 20000 in
theorem tb_B_value_24 {G : GG} (v0 : Nat) (h : Hp) : T G M_B_value 15 cI 24 [(0, .ref v0)] [] h (b_B_value_24 v0 h) := by
  unfold b_B_value_24
  refine q_aload_n (pc := 24) (dq D_B_value_0_ok 13 rfl) rfl 0 rfl ?_
  refine q_ic2 (pc := 25) (dq D_B_value_0_ok 14 rfl) ?_
  refine r_invI (Mc := M_B_refuse) (pc := 26) (ci := 0) (rest := []) 0 1 [.int 2] (dq D_B_value_0_ok 15 rfl) rfl rfl lc_B_refuse lv_B_refuse_ ml_B_87 rfl rfl rfl rfl (t_B_refuse v0 (2 : Int32) h) (fun r2 h1 => ?_)
  exact r_reti (pc := 29) (dq D_B_value_0_ok 16 rfl) rfl
noncomputable def f_B_value (v0 : Nat) (v1 : Int32) (v2 : Int32) (h : Hp) : Option (Int32 × Hp) := gd (hS h v0 = some (.inl 0)) (bd (f_B_hasFeast v0 v1 h) fun r2 h1 => if r2 = 0 then (gd (hS h1 v0 = some (.inl 0)) (bd (f_B_refuse v0 (1 : Int32) h1) fun r11 h10 => some (r11, h10))) else (if v2 < 0 then (b_B_value_24 v0 h1) else (if v2 ≤ 6 then (gd (hS h1 v0 = some (.inl 0)) (bR (hR h1 v0 12) fun x3 => gd (hS h1 v0 = some (.inl 0)) (bR (hR h1 v0 3) fun x4 => gd (hS h1 v0 = some (.inl 0)) (bR (hR h1 v0 5) fun x5 => gd (hS h1 x3 = some (.inl 9)) (bd (f_G_play x3 x4 x5 v1 v2 h1) fun r7 h6 => gd (hS h6 v0 = some (.inl 0)) (bd (f_B_grant v0 r7 h6) fun r9 h8 => some (r9, h8))))))) else (b_B_value_24 v0 h1))))
set_option maxHeartbeats 4000000 in
set_option maxRecDepth 20000 in
theorem t_B_value {G : GG} (v0 : Nat) (v1 : Int32) (v2 : Int32) (h : Hp) : Mt G M_B_value 15 [.ref v0, .int v1, .int v2] cI h (f_B_value v0 v1 v2 h) := by
  refine Mt.ofF (by decide +kernel) rfl (Rt.i rfl rfl) ?_
  show T G M_B_value 15 cI 0 [(0, .ref v0), (1, .int v1), (2, .int v2)] [] h _
  unfold f_B_value
  refine q_aload_n (pc := 0) (dq D_B_value_0_ok 0 rfl) rfl 0 rfl ?_
  refine q_iload_n (pc := 1) (dq D_B_value_0_ok 1 rfl) rfl 1 rfl ?_
  refine r_invI (Mc := M_B_hasFeast) (pc := 2) (ci := 0) (rest := []) 0 1 [.int v1] (dq D_B_value_0_ok 2 rfl) rfl rfl lc_B_hasFeast lv_B_hasFeast_ ml_B_189 rfl rfl rfl rfl (t_B_hasFeast v0 v1 h) (fun r2 h1 => ?_)
  refine p_if_ne (pc := 5) 14 (dq D_B_value_0_ok 3 rfl) rfl ?_ ?_
  · refine q_iload_n (pc := 14) (dq D_B_value_0_ok 8 rfl) rfl 2 rfl ?_
    refine p_if_lt (pc := 15) 24 (dq D_B_value_0_ok 9 rfl) rfl ?_ ?_
    · exact T.lsub [0] rfl (tb_B_value_24 v0 h1)
    · refine q_iload_n (pc := 18) (dq D_B_value_0_ok 10 rfl) rfl 2 rfl ?_
      refine q_bipush (pc := 19) (v := 6) (dq D_B_value_0_ok 11 rfl) (by decide) ?_
      refine q_ic_le (pc := 21) 30 (dq D_B_value_0_ok 12 rfl) rfl ?_ ?_
      · refine q_aload_n (pc := 30) (dq D_B_value_0_ok 17 rfl) rfl 0 rfl ?_
        refine q_aload_n (pc := 31) (dq D_B_value_0_ok 18 rfl) rfl 0 rfl ?_
        refine q_getR (pc := 32) (dq D_B_value_0_ok 19 rfl) fa_B_68 rfl (fun x3 => ?_)
        refine q_aload_n (pc := 35) (dq D_B_value_0_ok 20 rfl) rfl 0 rfl ?_
        refine q_getR (pc := 36) (dq D_B_value_0_ok 21 rfl) fa_B_23 rfl (fun x4 => ?_)
        refine q_aload_n (pc := 39) (dq D_B_value_0_ok 22 rfl) rfl 0 rfl ?_
        refine q_getR (pc := 40) (dq D_B_value_0_ok 23 rfl) fa_B_30 rfl (fun x5 => ?_)
        refine q_iload_n (pc := 43) (dq D_B_value_0_ok 24 rfl) rfl 1 rfl ?_
        refine q_iload_n (pc := 44) (dq D_B_value_0_ok 25 rfl) rfl 2 rfl ?_
        refine r_invI (Mc := M_G_play) (pc := 45) (ci := 9) (rest := [.ref v0]) 14 4 [.ref x4, .ref x5, .int v1, .int v2] (dq D_B_value_0_ok 26 rfl) rfl rfl lc_G_play lv_G_play_ ml_B_281 rfl rfl rfl rfl (t_G_play x3 x4 x5 v1 v2 h1) (fun r7 h6 => ?_)
        refine r_invI (Mc := M_B_grant) (pc := 48) (ci := 0) (rest := []) 0 1 [.int r7] (dq D_B_value_0_ok 27 rfl) rfl rfl lc_B_grant lv_B_grant_ ml_B_109 rfl rfl rfl rfl (t_B_grant v0 r7 h6) (fun r9 h8 => ?_)
        exact r_reti (pc := 51) (dq D_B_value_0_ok 28 rfl) rfl
      · exact T.lsub [0] rfl (tb_B_value_24 v0 h1)
  · refine q_aload_n (pc := 8) (dq D_B_value_0_ok 4 rfl) rfl 0 rfl ?_
    refine q_ic1 (pc := 9) (dq D_B_value_0_ok 5 rfl) ?_
    refine r_invI (Mc := M_B_refuse) (pc := 10) (ci := 0) (rest := []) 0 1 [.int 1] (dq D_B_value_0_ok 6 rfl) rfl rfl lc_B_refuse lv_B_refuse_ ml_B_87 rfl rfl rfl rfl (t_B_refuse v0 (1 : Int32) h1) (fun r11 h10 => ?_)
    exact r_reti (pc := 13) (dq D_B_value_0_ok 7 rfl) rfl
noncomputable def b_B_moves_25 (v0 : Nat) (h : Hp) : Option (Int32 × Hp) := gd (hS h v0 = some (.inl 0)) (bd (f_B_refuse v0 (2 : Int32) h) fun r2 h1 => some (r2, h1))
set_option maxHeartbeats 4000000 in
set_option maxRecDepth 20000 in
theorem tb_B_moves_25 {G : GG} (v0 : Nat) (h : Hp) : T G M_B_moves 15 cI 25 [(0, .ref v0)] [] h (b_B_moves_25 v0 h) := by
  unfold b_B_moves_25
  refine q_aload_n (pc := 25) (dq D_B_moves_0_ok 14 rfl) rfl 0 rfl ?_
  refine q_ic2 (pc := 26) (dq D_B_moves_0_ok 15 rfl) ?_
  refine r_invI (Mc := M_B_refuse) (pc := 27) (ci := 0) (rest := []) 0 1 [.int 2] (dq D_B_moves_0_ok 16 rfl) rfl rfl lc_B_refuse lv_B_refuse_ ml_B_87 rfl rfl rfl rfl (t_B_refuse v0 (2 : Int32) h) (fun r2 h1 => ?_)
  exact r_reti (pc := 30) (dq D_B_moves_0_ok 17 rfl) rfl
noncomputable def f_B_moves (v0 : Nat) (v1 : Int32) (v2 : Int32) (h : Hp) : Option (Int32 × Hp) := gd (hS h v0 = some (.inl 0)) (bd (f_B_hasFeast v0 v1 h) fun r2 h1 => if r2 = 0 then (gd (hS h1 v0 = some (.inl 0)) (bd (f_B_refuse v0 (1 : Int32) h1) fun r13 h12 => some (r13, h12))) else (if v2 < 1 then (b_B_moves_25 v0 h1) else (if v2 ≤ 6 then (gd (hS h1 v0 = some (.inl 0)) (bR (hR h1 v0 12) fun x3 => gd (hS h1 v0 = some (.inl 0)) (bR (hR h1 v0 3) fun x4 => gd (hS h1 v0 = some (.inl 0)) (bR (hR h1 v0 5) fun x5 => gd (hS h1 x3 = some (.inl 9)) (bd (f_G_play x3 x4 x5 v1 v2 h1) fun r7 h6 => gd (hS h6 v0 = some (.inl 0)) (bR (hR h6 v0 12) fun x8 => gd (hS h6 x8 = some (.inl 9)) (lt (hI h6 x8 3) fun x9 => gd (hS h6 v0 = some (.inl 0)) (bd (f_B_grant v0 x9 h6) fun r11 h10 => some (r11, h10))))))))) else (b_B_moves_25 v0 h1))))
set_option maxHeartbeats 4000000 in
set_option maxRecDepth 20000 in
theorem t_B_moves {G : GG} (v0 : Nat) (v1 : Int32) (v2 : Int32) (h : Hp) : Mt G M_B_moves 15 [.ref v0, .int v1, .int v2] cI h (f_B_moves v0 v1 v2 h) := by
  refine Mt.ofF (by decide +kernel) rfl (Rt.i rfl rfl) ?_
  show T G M_B_moves 15 cI 0 [(0, .ref v0), (1, .int v1), (2, .int v2)] [] h _
  unfold f_B_moves
  refine q_aload_n (pc := 0) (dq D_B_moves_0_ok 0 rfl) rfl 0 rfl ?_
  refine q_iload_n (pc := 1) (dq D_B_moves_0_ok 1 rfl) rfl 1 rfl ?_
  refine r_invI (Mc := M_B_hasFeast) (pc := 2) (ci := 0) (rest := []) 0 1 [.int v1] (dq D_B_moves_0_ok 2 rfl) rfl rfl lc_B_hasFeast lv_B_hasFeast_ ml_B_189 rfl rfl rfl rfl (t_B_hasFeast v0 v1 h) (fun r2 h1 => ?_)
  refine p_if_ne (pc := 5) 14 (dq D_B_moves_0_ok 3 rfl) rfl ?_ ?_
  · refine q_iload_n (pc := 14) (dq D_B_moves_0_ok 8 rfl) rfl 2 rfl ?_
    refine q_ic1 (pc := 15) (dq D_B_moves_0_ok 9 rfl) ?_
    refine q_ic_lt (pc := 16) 25 (dq D_B_moves_0_ok 10 rfl) rfl ?_ ?_
    · exact T.lsub [0] rfl (tb_B_moves_25 v0 h1)
    · refine q_iload_n (pc := 19) (dq D_B_moves_0_ok 11 rfl) rfl 2 rfl ?_
      refine q_bipush (pc := 20) (v := 6) (dq D_B_moves_0_ok 12 rfl) (by decide) ?_
      refine q_ic_le (pc := 22) 31 (dq D_B_moves_0_ok 13 rfl) rfl ?_ ?_
      · refine q_aload_n (pc := 31) (dq D_B_moves_0_ok 18 rfl) rfl 0 rfl ?_
        refine q_getR (pc := 32) (dq D_B_moves_0_ok 19 rfl) fa_B_68 rfl (fun x3 => ?_)
        refine q_aload_n (pc := 35) (dq D_B_moves_0_ok 20 rfl) rfl 0 rfl ?_
        refine q_getR (pc := 36) (dq D_B_moves_0_ok 21 rfl) fa_B_23 rfl (fun x4 => ?_)
        refine q_aload_n (pc := 39) (dq D_B_moves_0_ok 22 rfl) rfl 0 rfl ?_
        refine q_getR (pc := 40) (dq D_B_moves_0_ok 23 rfl) fa_B_30 rfl (fun x5 => ?_)
        refine q_iload_n (pc := 43) (dq D_B_moves_0_ok 24 rfl) rfl 1 rfl ?_
        refine q_iload_n (pc := 44) (dq D_B_moves_0_ok 25 rfl) rfl 2 rfl ?_
        refine r_invI (Mc := M_G_play) (pc := 45) (ci := 9) (rest := []) 14 4 [.ref x4, .ref x5, .int v1, .int v2] (dq D_B_moves_0_ok 26 rfl) rfl rfl lc_G_play lv_G_play_ ml_B_281 rfl rfl rfl rfl (t_G_play x3 x4 x5 v1 v2 h1) (fun r7 h6 => ?_)
        refine q_pop (pc := 48) (dq D_B_moves_0_ok 27 rfl) rfl ?_
        refine q_aload_n (pc := 49) (dq D_B_moves_0_ok 28 rfl) rfl 0 rfl ?_
        refine q_aload_n (pc := 50) (dq D_B_moves_0_ok 29 rfl) rfl 0 rfl ?_
        refine q_getR (pc := 51) (dq D_B_moves_0_ok 30 rfl) fa_B_68 rfl (fun x8 => ?_)
        refine r_getI (pc := 54) (dq D_B_moves_0_ok 31 rfl) fa_B_285 rfl (fun x9 => ?_)
        refine r_invI (Mc := M_B_grant) (pc := 57) (ci := 0) (rest := []) 0 1 [.int x9] (dq D_B_moves_0_ok 32 rfl) rfl rfl lc_B_grant lv_B_grant_ ml_B_109 rfl rfl rfl rfl (t_B_grant v0 x9 h6) (fun r11 h10 => ?_)
        exact r_reti (pc := 60) (dq D_B_moves_0_ok 33 rfl) rfl
      · exact T.lsub [0] rfl (tb_B_moves_25 v0 h1)
  · refine q_aload_n (pc := 8) (dq D_B_moves_0_ok 4 rfl) rfl 0 rfl ?_
    refine q_ic1 (pc := 9) (dq D_B_moves_0_ok 5 rfl) ?_
    refine r_invI (Mc := M_B_refuse) (pc := 10) (ci := 0) (rest := []) 0 1 [.int 1] (dq D_B_moves_0_ok 6 rfl) rfl rfl lc_B_refuse lv_B_refuse_ ml_B_87 rfl rfl rfl rfl (t_B_refuse v0 (1 : Int32) h1) (fun r13 h12 => ?_)
    exact r_reti (pc := 13) (dq D_B_moves_0_ok 7 rfl) rfl
noncomputable def b_Arr_fillJ_6 (k6 : (Nat × Int64 × Int32 × Int32) → Hp → Option (Unit × Hp)) (v0 : Nat) (v1 : Int64) (v3 : Int32) (v4 : Int32) (h : Hp) : Option (Unit × Hp) := if v4 ≤ v3 then (some ((), h)) else (gd (ai h v0 1 v3) (lt (uL h v0 v3.toNatClampNeg v1) fun h1 => k6 (v0, v1, v3 + 1, v4) h1))
set_option maxHeartbeats 4000000 in
set_option maxRecDepth 20000 in
theorem tb_Arr_fillJ_6 {G : GG} {k6 : (Nat × Int64 × Int32 × Int32) → Hp → Option (Unit × Hp)} (hk6 : ∀ s h, T G M_Arr_fillJ 0 cU 6 [(0, .ref s.1), (1, .long s.2.1), (3, .int s.2.2.1), (4, .int s.2.2.2)] [] h (k6 s h)) (v0 : Nat) (v1 : Int64) (v3 : Int32) (v4 : Int32) (h : Hp) : T G M_Arr_fillJ 0 cU 6 [(0, .ref v0), (1, .long v1), (3, .int v3), (4, .int v4)] [] h (b_Arr_fillJ_6 k6 v0 v1 v3 v4 h) := by
  unfold b_Arr_fillJ_6
  refine q_iload_n (pc := 6) (dq D_Arr_fillJ_0_ok 5 rfl) rfl 2 rfl ?_
  refine q_iload (pc := 7) (dq D_Arr_fillJ_0_ok 6 rfl) 3 rfl ?_
  refine q_ic_ge (pc := 9) 22 (dq D_Arr_fillJ_0_ok 7 rfl) rfl ?_ ?_
  · exact r_retu (pc := 22) (dq D_Arr_fillJ_0_ok 14 rfl) rfl
  · refine q_aload_n (pc := 12) (dq D_Arr_fillJ_0_ok 8 rfl) rfl 0 rfl ?_
    refine q_iload_n (pc := 13) (dq D_Arr_fillJ_0_ok 9 rfl) rfl 2 rfl ?_
    refine q_lload_n (pc := 14) (dq D_Arr_fillJ_0_ok 10 rfl) rfl 1 rfl ?_
    refine r_last (pc := 15) (dq D_Arr_fillJ_0_ok 11 rfl) (fun h1 => ?_)
    refine q_iinc (pc := 16) (v := (1)) (ls' := [(3, .int (v3 + 1)), (0, .ref v0), (1, .long v1), (4, .int v4)]) (dq D_Arr_fillJ_0_ok 12 rfl) 2 rfl (by decide) rfl rfl ?_
    refine q_goto (pc := 19) 6 (dq D_Arr_fillJ_0_ok 13 rfl) rfl ?_
    exact T.lsub [1, 2, 0, 3] rfl (hk6 (v0, v1, v3 + 1, v4) h1)
noncomputable def l_Arr_fillJ_6 : Nat → (Nat × Int64 × Int32 × Int32) → Hp → Option (Unit × Hp) := lp (fun k6 s h => b_Arr_fillJ_6 k6 s.1 s.2.1 s.2.2.1 s.2.2.2 h)
set_option maxHeartbeats 4000000 in
set_option maxRecDepth 20000 in
theorem tl_Arr_fillJ_6 {G : GG} (n : Nat) (s : Nat × Int64 × Int32 × Int32) (h : Hp) : T G M_Arr_fillJ 0 cU 6 [(0, .ref s.1), (1, .long s.2.1), (3, .int s.2.2.1), (4, .int s.2.2.2)] [] h (l_Arr_fillJ_6 n s h) :=
  T.loop (lsOf := fun s => [(0, .ref s.1), (1, .long s.2.1), (3, .int s.2.2.1), (4, .int s.2.2.2)]) (fun k6 hk6 s h => tb_Arr_fillJ_6 hk6 s.1 s.2.1 s.2.2.1 s.2.2.2 h) n s h
noncomputable def f_Arr_fillJ (v0 : Nat) (v1 : Int64) (h : Hp) : Option (Unit × Hp) := lt (0 : Int32) fun y1 => bR (al h v0 1) fun n2 => lt (Int32.ofNat n2 : Int32) fun y3 => l_Arr_fillJ_6 FU (v0, v1, y1, y3) h
set_option maxHeartbeats 4000000 in
set_option maxRecDepth 20000 in
theorem t_Arr_fillJ {G : GG} (v0 : Nat) (v1 : Int64) (h : Hp) : Mt G M_Arr_fillJ 0 [.ref v0, .long v1] cU h (f_Arr_fillJ v0 v1 h) := by
  refine Mt.ofF (by decide +kernel) rfl (Rt.v rfl rfl) ?_
  show T G M_Arr_fillJ 0 cU 0 [(0, .ref v0), (1, .long v1)] [] h _
  unfold f_Arr_fillJ
  refine q_ic0 (pc := 0) (dq D_Arr_fillJ_0_ok 0 rfl) ?_
  refine r_nmI (fun y1 => ?_)
  refine q_istore_n (pc := 1) (ls' := [(3, .int y1), (0, .ref v0), (1, .long v1)]) (dq D_Arr_fillJ_0_ok 1 rfl) rfl rfl rfl ?_
  refine q_aload_n (pc := 2) (dq D_Arr_fillJ_0_ok 2 rfl) rfl 1 rfl ?_
  refine r_alen (pc := 3) 1 (dq D_Arr_fillJ_0_ok 3 rfl) rfl (fun n2 => ?_)
  refine r_nmI (fun y3 => ?_)
  refine q_istore (pc := 4) (ls' := [(4, .int y3), (3, .int y1), (0, .ref v0), (1, .long v1)]) (dq D_Arr_fillJ_0_ok 4 rfl) rfl rfl ?_
  exact T.lsub [2, 3, 1, 0] rfl (tl_Arr_fillJ_6 FU (v0, v1, y1, y3) h)
noncomputable def b_H_goOn_32 (v1 : Nat) (v6 : Int32) (h : Hp) : Option (Int32 × Hp) := gd (hS h v1 = some (.inl 3)) (bd (f_W_way v1 h) fun r2 h1 => gd (hS h1 v1 = some (.inl 3)) (bd (f_W_resting v1 v6 r2 h1) fun r4 h3 => some (r4, h3)))
set_option maxHeartbeats 4000000 in
set_option maxRecDepth 20000 in
theorem tb_H_goOn_32 {G : GG} (v1 : Nat) (v6 : Int32) (h : Hp) : T G M_H_goOn 1 cI 32 [(1, .ref v1), (6, .int v6)] [] h (b_H_goOn_32 v1 v6 h) := by
  unfold b_H_goOn_32
  refine q_aload_n (pc := 32) (dq D_H_goOn_0_ok 17 rfl) rfl 0 rfl ?_
  refine q_iload (pc := 33) (dq D_H_goOn_0_ok 18 rfl) 1 rfl ?_
  refine q_aload_n (pc := 35) (dq D_H_goOn_0_ok 19 rfl) rfl 0 rfl ?_
  refine r_invI (Mc := M_W_way) (pc := 36) (ci := 3) (rest := [.int v6, .ref v1]) 0 0 [] (dq D_H_goOn_0_ok 20 rfl) rfl rfl lc_W_way lv_W_way_ ml_H_63 rfl rfl rfl rfl (t_W_way v1 h) (fun r2 h1 => ?_)
  refine r_invI (Mc := M_W_resting) (pc := 39) (ci := 3) (rest := []) 0 2 [.int v6, .int r2] (dq D_H_goOn_0_ok 21 rfl) rfl rfl lc_W_resting lv_W_resting_ ml_H_75 rfl rfl rfl rfl (t_W_resting v1 v6 r2 h1) (fun r4 h3 => ?_)
  exact r_reti (pc := 42) (dq D_H_goOn_0_ok 22 rfl) rfl
noncomputable def f_H_goOn (v0 : Nat) (v1 : Nat) (v2 : Int32) (v3 : Int32) (v4 : Int64) (h : Hp) : Option (Int32 × Hp) := gd (hS h v1 = some (.inl 3)) (bd (f_W_way v1 h) fun r2 h1 => gd (hS h1 v1 = some (.inl 3)) (bd (f_W_landing v1 v2 v3 r2 h1) fun r4 h3 => gd (hS h3 v1 = some (.inl 3)) (bd (f_W_lacks v1 r4 h3) fun r6 h5 => if r6 = 0 then (b_H_goOn_32 v1 r4 h5) else (gd (hS h5 v0 = some (.inl 10)) (lt (hL h5 v0 2) fun x7 => gd (hS h5 v0 = some (.inl 10)) (lt (uL h5 v0 2 (x7 + v4)) fun h8 => b_H_goOn_32 v1 r4 h8))))))
set_option maxHeartbeats 4000000 in
set_option maxRecDepth 20000 in
theorem t_H_goOn {G : GG} (v0 : Nat) (v1 : Nat) (v2 : Int32) (v3 : Int32) (v4 : Int64) (h : Hp) : Mt G M_H_goOn 1 [.ref v0, .ref v1, .int v2, .int v3, .long v4] cI h (f_H_goOn v0 v1 v2 v3 v4 h) := by
  refine Mt.ofF (by decide +kernel) rfl (Rt.i rfl rfl) ?_
  show T G M_H_goOn 1 cI 0 [(0, .ref v0), (1, .ref v1), (2, .int v2), (3, .int v3), (4, .long v4)] [] h _
  unfold f_H_goOn
  refine q_aload_n (pc := 0) (dq D_H_goOn_0_ok 0 rfl) rfl 1 rfl ?_
  refine q_iload_n (pc := 1) (dq D_H_goOn_0_ok 1 rfl) rfl 2 rfl ?_
  refine q_iload_n (pc := 2) (dq D_H_goOn_0_ok 2 rfl) rfl 3 rfl ?_
  refine q_aload_n (pc := 3) (dq D_H_goOn_0_ok 3 rfl) rfl 1 rfl ?_
  refine r_invI (Mc := M_W_way) (pc := 4) (ci := 3) (rest := [.int v3, .int v2, .ref v1]) 0 0 [] (dq D_H_goOn_0_ok 4 rfl) rfl rfl lc_W_way lv_W_way_ ml_H_63 rfl rfl rfl rfl (t_W_way v1 h) (fun r2 h1 => ?_)
  refine r_invI (Mc := M_W_landing) (pc := 7) (ci := 3) (rest := []) 0 3 [.int v2, .int v3, .int r2] (dq D_H_goOn_0_ok 5 rfl) rfl rfl lc_W_landing lv_W_landing_ ml_H_67 rfl rfl rfl rfl (t_W_landing v1 v2 v3 r2 h1) (fun r4 h3 => ?_)
  refine q_istore (pc := 10) (ls' := [(6, .int r4), (0, .ref v0), (1, .ref v1), (2, .int v2), (3, .int v3), (4, .long v4)]) (dq D_H_goOn_0_ok 6 rfl) rfl rfl ?_
  refine q_aload_n (pc := 12) (dq D_H_goOn_0_ok 7 rfl) rfl 2 rfl ?_
  refine q_iload (pc := 13) (dq D_H_goOn_0_ok 8 rfl) 0 rfl ?_
  refine r_invI (Mc := M_W_lacks) (pc := 15) (ci := 3) (rest := []) 0 1 [.int r4] (dq D_H_goOn_0_ok 9 rfl) rfl rfl lc_W_lacks lv_W_lacks_ ml_H_71 rfl rfl rfl rfl (t_W_lacks v1 r4 h3) (fun r6 h5 => ?_)
  refine p_if_eq (pc := 18) 32 (dq D_H_goOn_0_ok 10 rfl) rfl ?_ ?_
  · exact T.lsub [2, 0] rfl (tb_H_goOn_32 v1 r4 h5)
  · refine q_aload_n (pc := 21) (dq D_H_goOn_0_ok 11 rfl) rfl 1 rfl ?_
    refine q_dup (pc := 22) (dq D_H_goOn_0_ok 12 rfl) rfl ?_
    refine r_getL (pc := 23) (dq D_H_goOn_0_ok 13 rfl) fa_H_24 rfl (fun x7 => ?_)
    refine q_lload (pc := 26) (dq D_H_goOn_0_ok 14 rfl) 5 rfl ?_
    refine q_ladd (pc := 28) (dq D_H_goOn_0_ok 15 rfl) ?_
    refine r_putL (pc := 29) (dq D_H_goOn_0_ok 16 rfl) fp_H_24 rfl rfl (fun h8 => ?_)
    exact T.lsub [2, 0] rfl (tb_H_goOn_32 v1 r4 h8)
noncomputable def b_H_spreadDay_132 (k35 : (Nat × Nat × Int32 × Int32 × Int32) → Hp → Option (Unit × Hp)) (v0 : Nat) (v1 : Nat) (v2 : Int32) (v3 : Int32) (v4 : Int32) (h : Hp) : Option (Unit × Hp) := k35 (v0, v1, v2, v3, v4 + 1) h
set_option maxHeartbeats 4000000 in
set_option maxRecDepth 20000 in
theorem tb_H_spreadDay_132 {G : GG} {k35 : (Nat × Nat × Int32 × Int32 × Int32) → Hp → Option (Unit × Hp)} (hk35 : ∀ s h, T G M_H_spreadDay 2 cU 35 [(0, .ref s.1), (1, .ref s.2.1), (2, .int s.2.2.1), (3, .int s.2.2.2.1), (4, .int s.2.2.2.2)] [] h (k35 s h)) (v0 : Nat) (v1 : Nat) (v2 : Int32) (v3 : Int32) (v4 : Int32) (h : Hp) : T G M_H_spreadDay 2 cU 132 [(0, .ref v0), (1, .ref v1), (2, .int v2), (3, .int v3), (4, .int v4)] [] h (b_H_spreadDay_132 k35 v0 v1 v2 v3 v4 h) := by
  unfold b_H_spreadDay_132
  refine q_iinc (pc := 132) (v := (1)) (ls' := [(4, .int (v4 + 1)), (0, .ref v0), (1, .ref v1), (2, .int v2), (3, .int v3)]) (dq D_H_spreadDay_1_ok 17 rfl) 4 rfl (by decide) rfl rfl ?_
  refine q_goto (pc := 135) 35 (dq D_H_spreadDay_1_ok 18 rfl) rfl ?_
  exact T.lsub [1, 2, 3, 4, 0] rfl (hk35 (v0, v1, v2, v3, v4 + 1) h)
noncomputable def b_H_spreadDay_86 (k35 : (Nat × Nat × Int32 × Int32 × Int32) → Hp → Option (Unit × Hp)) (v0 : Nat) (v1 : Nat) (v2 : Int32) (v3 : Int32) (v4 : Int32) (v5 : Int64) (s0 : Int32) (h : Hp) : Option (Unit × Hp) := gd (hS h v0 = some (.inl 10)) (bR (hR h v0 1) fun x1 => gd (ai h x1 1 s0) (lt (hL h x1 s0.toNatClampNeg) fun x2 => gd (ai h x1 1 s0) (lt (uL h x1 s0.toNatClampNeg (x2 + (v5 * ((100 - v3).toInt64)))) fun h3 => gd (hS h3 v0 = some (.inl 10)) (bR (hR h3 v0 1) fun x4 => gd (hS h3 v0 = some (.inl 10)) (bd (f_H_goOn v0 v1 s0 (1 : Int32) (v5 * v3.toInt64) h3) fun r6 h5 => gd (ai h5 x4 1 r6) (lt (hL h5 x4 r6.toNatClampNeg) fun x7 => gd (ai h5 x4 1 r6) (lt (uL h5 x4 r6.toNatClampNeg (x7 + (v5 * v3.toInt64))) fun h8 => b_H_spreadDay_132 k35 v0 v1 v2 v3 v4 h8)))))))
set_option maxHeartbeats 4000000 in
set_option maxRecDepth 20000 in
theorem tb_H_spreadDay_86 {G : GG} {k35 : (Nat × Nat × Int32 × Int32 × Int32) → Hp → Option (Unit × Hp)} (hk35 : ∀ s h, T G M_H_spreadDay 2 cU 35 [(0, .ref s.1), (1, .ref s.2.1), (2, .int s.2.2.1), (3, .int s.2.2.2.1), (4, .int s.2.2.2.2)] [] h (k35 s h)) (v0 : Nat) (v1 : Nat) (v2 : Int32) (v3 : Int32) (v4 : Int32) (v5 : Int64) (s0 : Int32) (h : Hp) : T G M_H_spreadDay 2 cU 86 [(0, .ref v0), (1, .ref v1), (2, .int v2), (3, .int v3), (4, .int v4), (5, .long v5)] [.int s0] h (b_H_spreadDay_86 k35 v0 v1 v2 v3 v4 v5 s0 h) := by
  unfold b_H_spreadDay_86
  refine q_istore (pc := 86) (ls' := [(7, .int s0), (0, .ref v0), (1, .ref v1), (2, .int v2), (3, .int v3), (4, .int v4), (5, .long v5)]) (dq D_H_spreadDay_0_ok 44 rfl) rfl rfl ?_
  refine q_aload_n (pc := 88) (dq D_H_spreadDay_0_ok 45 rfl) rfl 1 rfl ?_
  refine q_getR (pc := 89) (dq D_H_spreadDay_0_ok 46 rfl) fa_H_15 rfl (fun x1 => ?_)
  refine q_iload (pc := 92) (dq D_H_spreadDay_0_ok 47 rfl) 0 rfl ?_
  refine q_dup2 (pc := 94) (dq D_H_spreadDay_0_ok 48 rfl) rfl rfl ?_
  refine r_lald (pc := 95) (dq D_H_spreadDay_0_ok 49 rfl) (fun x2 => ?_)
  refine q_lload (pc := 96) (dq D_H_spreadDay_0_ok 50 rfl) 6 rfl ?_
  refine q_bipush (pc := 98) (v := 100) (dq D_H_spreadDay_0_ok 51 rfl) (by decide) ?_
  refine q_iload_n (pc := 100) (dq D_H_spreadDay_0_ok 52 rfl) rfl 4 rfl ?_
  refine q_isub (pc := 101) (dq D_H_spreadDay_0_ok 53 rfl) ?_
  refine q_i2l (pc := 102) (dq D_H_spreadDay_0_ok 54 rfl) ?_
  refine q_lmul (pc := 103) (dq D_H_spreadDay_0_ok 55 rfl) ?_
  refine q_ladd (pc := 104) (dq D_H_spreadDay_0_ok 56 rfl) ?_
  refine r_last (pc := 105) (dq D_H_spreadDay_0_ok 57 rfl) (fun h3 => ?_)
  refine q_aload_n (pc := 106) (dq D_H_spreadDay_0_ok 58 rfl) rfl 1 rfl ?_
  refine q_getR (pc := 107) (dq D_H_spreadDay_0_ok 59 rfl) fa_H_15 rfl (fun x4 => ?_)
  refine q_aload_n (pc := 110) (dq D_H_spreadDay_1_ok 0 rfl) rfl 1 rfl ?_
  refine q_aload_n (pc := 111) (dq D_H_spreadDay_1_ok 1 rfl) rfl 2 rfl ?_
  refine q_iload (pc := 112) (dq D_H_spreadDay_1_ok 2 rfl) 0 rfl ?_
  refine q_ic1 (pc := 114) (dq D_H_spreadDay_1_ok 3 rfl) ?_
  refine q_lload (pc := 115) (dq D_H_spreadDay_1_ok 4 rfl) 6 rfl ?_
  refine q_iload_n (pc := 117) (dq D_H_spreadDay_1_ok 5 rfl) rfl 4 rfl ?_
  refine q_i2l (pc := 118) (dq D_H_spreadDay_1_ok 6 rfl) ?_
  refine q_lmul (pc := 119) (dq D_H_spreadDay_1_ok 7 rfl) ?_
  refine r_invI (Mc := M_H_goOn) (pc := 120) (ci := 10) (rest := [.ref x4]) 1 4 [.ref v1, .int s0, .int 1, .long (v5 * v3.toInt64)] (dq D_H_spreadDay_1_ok 8 rfl) rfl rfl lc_H_goOn lv_H_goOn_ ml_H_59 rfl rfl rfl rfl (t_H_goOn v0 v1 s0 (1 : Int32) (v5 * v3.toInt64) h3) (fun r6 h5 => ?_)
  refine q_dup2 (pc := 123) (dq D_H_spreadDay_1_ok 9 rfl) rfl rfl ?_
  refine r_lald (pc := 124) (dq D_H_spreadDay_1_ok 10 rfl) (fun x7 => ?_)
  refine q_lload (pc := 125) (dq D_H_spreadDay_1_ok 11 rfl) 6 rfl ?_
  refine q_iload_n (pc := 127) (dq D_H_spreadDay_1_ok 12 rfl) rfl 4 rfl ?_
  refine q_i2l (pc := 128) (dq D_H_spreadDay_1_ok 13 rfl) ?_
  refine q_lmul (pc := 129) (dq D_H_spreadDay_1_ok 14 rfl) ?_
  refine q_ladd (pc := 130) (dq D_H_spreadDay_1_ok 15 rfl) ?_
  refine r_last (pc := 131) (dq D_H_spreadDay_1_ok 16 rfl) (fun h8 => ?_)
  exact T.lsub [1, 2, 3, 4, 5] rfl (tb_H_spreadDay_132 hk35 v0 v1 v2 v3 v4 h8)
noncomputable def b_H_spreadDay_35 (k35 : (Nat × Nat × Int32 × Int32 × Int32) → Hp → Option (Unit × Hp)) (v0 : Nat) (v1 : Nat) (v2 : Int32) (v3 : Int32) (v4 : Int32) (h : Hp) : Option (Unit × Hp) := gd (hS h v1 = some (.inl 3)) (lt (hI h v1 1) fun x1 => if x1 ≤ v4 then (gd (hS h v0 = some (.inl 10)) (bR (hR h v0 0) fun x2 => gd (hS h v0 = some (.inl 10)) (bR (hR h v0 1) fun x3 => gd (hS h v0 = some (.inl 10)) (lt (uR h v0 0 (some x3)) fun h4 => gd (hS h4 v0 = some (.inl 10)) (lt (uR h4 v0 1 (some x2)) fun h5 => some ((), h5)))))) else (gd (hS h v0 = some (.inl 10)) (bR (hR h v0 0) fun x6 => gd (ai h x6 1 v4) (lt (hL h x6 v4.toNatClampNeg) fun x7 => if (lg_cmp x7 0) ≤ 0 then (b_H_spreadDay_132 k35 v0 v1 v2 v3 v4 h) else (if v2 = 0 then (b_H_spreadDay_86 k35 v0 v1 v2 v3 v4 x7 v4 h) else (gd (hS h v1 = some (.inl 3)) (lt (hI h v1 2) fun x8 => gd (hS h v0 = some (.inl 10)) (bd (f_H_goOn v0 v1 v4 x8 (100 * x7) h) fun r10 h9 => b_H_spreadDay_86 k35 v0 v1 v2 v3 v4 x7 r10 h9))))))))
set_option maxHeartbeats 4000000 in
set_option maxRecDepth 20000 in
theorem tb_H_spreadDay_35 {G : GG} {k35 : (Nat × Nat × Int32 × Int32 × Int32) → Hp → Option (Unit × Hp)} (hk35 : ∀ s h, T G M_H_spreadDay 2 cU 35 [(0, .ref s.1), (1, .ref s.2.1), (2, .int s.2.2.1), (3, .int s.2.2.2.1), (4, .int s.2.2.2.2)] [] h (k35 s h)) (v0 : Nat) (v1 : Nat) (v2 : Int32) (v3 : Int32) (v4 : Int32) (h : Hp) : T G M_H_spreadDay 2 cU 35 [(0, .ref v0), (1, .ref v1), (2, .int v2), (3, .int v3), (4, .int v4)] [] h (b_H_spreadDay_35 k35 v0 v1 v2 v3 v4 h) := by
  unfold b_H_spreadDay_35
  refine q_iload (pc := 35) (dq D_H_spreadDay_0_ok 18 rfl) 4 rfl ?_
  refine q_aload_n (pc := 37) (dq D_H_spreadDay_0_ok 19 rfl) rfl 1 rfl ?_
  refine r_getI (pc := 38) (dq D_H_spreadDay_0_ok 20 rfl) fa_H_53 rfl (fun x1 => ?_)
  refine q_ic_ge (pc := 41) 138 (dq D_H_spreadDay_0_ok 21 rfl) rfl ?_ ?_
  · refine q_aload_n (pc := 138) (dq D_H_spreadDay_1_ok 19 rfl) rfl 0 rfl ?_
    refine q_getR (pc := 139) (dq D_H_spreadDay_1_ok 20 rfl) fa_H_9 rfl (fun x2 => ?_)
    refine q_astore (pc := 142) (ls' := [(4, .ref x2), (0, .ref v0), (1, .ref v1), (2, .int v2), (3, .int v3)]) (dq D_H_spreadDay_1_ok 21 rfl) rfl rfl ?_
    refine q_aload_n (pc := 144) (dq D_H_spreadDay_1_ok 22 rfl) rfl 1 rfl ?_
    refine q_aload_n (pc := 145) (dq D_H_spreadDay_1_ok 23 rfl) rfl 1 rfl ?_
    refine q_getR (pc := 146) (dq D_H_spreadDay_1_ok 24 rfl) fa_H_15 rfl (fun x3 => ?_)
    refine r_putR (pc := 149) (dq D_H_spreadDay_1_ok 25 rfl) fp_H_9 rfl rfl rfl (fun h4 => ?_)
    refine q_aload_n (pc := 152) (dq D_H_spreadDay_1_ok 26 rfl) rfl 1 rfl ?_
    refine q_aload (pc := 153) (dq D_H_spreadDay_1_ok 27 rfl) 0 rfl ?_
    refine r_putR (pc := 155) (dq D_H_spreadDay_1_ok 28 rfl) fp_H_15 rfl rfl rfl (fun h5 => ?_)
    exact r_retu (pc := 158) (dq D_H_spreadDay_1_ok 29 rfl) rfl
  · refine q_aload_n (pc := 44) (dq D_H_spreadDay_0_ok 22 rfl) rfl 0 rfl ?_
    refine q_getR (pc := 45) (dq D_H_spreadDay_0_ok 23 rfl) fa_H_9 rfl (fun x6 => ?_)
    refine q_iload (pc := 48) (dq D_H_spreadDay_0_ok 24 rfl) 4 rfl ?_
    refine r_lald (pc := 50) (dq D_H_spreadDay_0_ok 25 rfl) (fun x7 => ?_)
    refine q_lstore (pc := 51) (ls' := [(5, .long x7), (0, .ref v0), (1, .ref v1), (2, .int v2), (3, .int v3), (4, .int v4)]) (dq D_H_spreadDay_0_ok 26 rfl) rfl rfl ?_
    refine q_lload (pc := 53) (dq D_H_spreadDay_0_ok 27 rfl) 0 rfl ?_
    refine q_lconst (pc := 55) (v := 0) (dq D_H_spreadDay_0_ok 28 rfl) (by decide) ?_
    refine q_lcmp (pc := 56) (dq D_H_spreadDay_0_ok 29 rfl) ?_
    refine p_if_le (pc := 57) 132 (dq D_H_spreadDay_0_ok 30 rfl) rfl ?_ ?_
    · exact T.lsub [1, 2, 3, 4, 5] rfl (tb_H_spreadDay_132 hk35 v0 v1 v2 v3 v4 h)
    · refine q_iload_n (pc := 60) (dq D_H_spreadDay_0_ok 31 rfl) rfl 3 rfl ?_
      refine p_if_eq (pc := 61) 84 (dq D_H_spreadDay_0_ok 32 rfl) rfl ?_ ?_
      · refine q_iload (pc := 84) (dq D_H_spreadDay_0_ok 43 rfl) 5 rfl ?_
        exact T.lsub [1, 2, 3, 4, 5, 0] rfl (tb_H_spreadDay_86 hk35 v0 v1 v2 v3 v4 x7 v4 h)
      · refine q_aload_n (pc := 64) (dq D_H_spreadDay_0_ok 33 rfl) rfl 1 rfl ?_
        refine q_aload_n (pc := 65) (dq D_H_spreadDay_0_ok 34 rfl) rfl 2 rfl ?_
        refine q_iload (pc := 66) (dq D_H_spreadDay_0_ok 35 rfl) 5 rfl ?_
        refine q_aload_n (pc := 68) (dq D_H_spreadDay_0_ok 36 rfl) rfl 2 rfl ?_
        refine r_getI (pc := 69) (dq D_H_spreadDay_0_ok 37 rfl) fa_H_56 rfl (fun x8 => ?_)
        refine q_ldc2 (pc := 72) (v := 100) (dq D_H_spreadDay_0_ok 38 rfl) lk_H_51 ?_
        refine q_lload (pc := 75) (dq D_H_spreadDay_0_ok 39 rfl) 0 rfl ?_
        refine q_lmul (pc := 77) (dq D_H_spreadDay_0_ok 40 rfl) ?_
        refine r_invI (Mc := M_H_goOn) (pc := 78) (ci := 10) (rest := []) 1 4 [.ref v1, .int v4, .int x8, .long (100 * x7)] (dq D_H_spreadDay_0_ok 41 rfl) rfl rfl lc_H_goOn lv_H_goOn_ ml_H_59 rfl rfl rfl rfl (t_H_goOn v0 v1 v4 x8 (100 * x7) h) (fun r10 h9 => ?_)
        refine q_goto (pc := 81) 86 (dq D_H_spreadDay_0_ok 42 rfl) rfl ?_
        exact T.lsub [1, 2, 3, 4, 5, 0] rfl (tb_H_spreadDay_86 hk35 v0 v1 v2 v3 v4 x7 r10 h9)
noncomputable def l_H_spreadDay_35 : Nat → (Nat × Nat × Int32 × Int32 × Int32) → Hp → Option (Unit × Hp) := lp (fun k35 s h => b_H_spreadDay_35 k35 s.1 s.2.1 s.2.2.1 s.2.2.2.1 s.2.2.2.2 h)
set_option maxHeartbeats 4000000 in
set_option maxRecDepth 20000 in
theorem tl_H_spreadDay_35 {G : GG} (n : Nat) (s : Nat × Nat × Int32 × Int32 × Int32) (h : Hp) : T G M_H_spreadDay 2 cU 35 [(0, .ref s.1), (1, .ref s.2.1), (2, .int s.2.2.1), (3, .int s.2.2.2.1), (4, .int s.2.2.2.2)] [] h (l_H_spreadDay_35 n s h) :=
  T.loop (lsOf := fun s => [(0, .ref s.1), (1, .ref s.2.1), (2, .int s.2.2.1), (3, .int s.2.2.2.1), (4, .int s.2.2.2.2)]) (fun k35 hk35 s h => tb_H_spreadDay_35 hk35 s.1 s.2.1 s.2.2.1 s.2.2.2.1 s.2.2.2.2 h) n s h
noncomputable def f_H_spreadDay (v0 : Nat) (v1 : Nat) (v2 : Int32) (v3 : Int32) (h : Hp) : Option (Unit × Hp) := gd (hS h v0 = some (.inl 10)) (bR (hR h v0 1) fun x1 => bd (f_Arr_fillJ x1 (0 : Int64) h) fun _ h2 => gd (hS h2 v0 = some (.inl 10)) (lt (hL h2 v0 2) fun x4 => gd (hS h2 v0 = some (.inl 10)) (lt (uL h2 v0 2 (x4 * 100)) fun h5 => gd (hS h5 v0 = some (.inl 10)) (lt (hL h5 v0 3) fun x6 => gd (hS h5 v0 = some (.inl 10)) (lt (uL h5 v0 3 (x6 * 100)) fun h7 => lt (0 : Int32) fun y8 => l_H_spreadDay_35 FU (v0, v1, v2, v3, y8) h7)))))
set_option maxHeartbeats 4000000 in
set_option maxRecDepth 20000 in
theorem t_H_spreadDay {G : GG} (v0 : Nat) (v1 : Nat) (v2 : Int32) (v3 : Int32) (h : Hp) : Mt G M_H_spreadDay 2 [.ref v0, .ref v1, .int v2, .int v3] cU h (f_H_spreadDay v0 v1 v2 v3 h) := by
  refine Mt.ofF (by decide +kernel) rfl (Rt.v rfl rfl) ?_
  show T G M_H_spreadDay 2 cU 0 [(0, .ref v0), (1, .ref v1), (2, .int v2), (3, .int v3)] [] h _
  unfold f_H_spreadDay
  refine q_aload_n (pc := 0) (dq D_H_spreadDay_0_ok 0 rfl) rfl 0 rfl ?_
  refine q_getR (pc := 1) (dq D_H_spreadDay_0_ok 1 rfl) fa_H_15 rfl (fun x1 => ?_)
  refine q_lconst (pc := 4) (v := 0) (dq D_H_spreadDay_0_ok 2 rfl) (by decide) ?_
  refine r_insU (Mc := M_Arr_fillJ) (pc := 5) (rest := []) 0 2 [.ref x1, .long 0] (dq D_H_spreadDay_0_ok 3 rfl) lc_Arr_fillJ ls_Arr_fillJ ml_H_18 rfl rfl rfl rfl (t_Arr_fillJ x1 (0 : Int64) h) (fun _ h2 => ?_)
  refine q_aload_n (pc := 8) (dq D_H_spreadDay_0_ok 4 rfl) rfl 0 rfl ?_
  refine q_dup (pc := 9) (dq D_H_spreadDay_0_ok 5 rfl) rfl ?_
  refine r_getL (pc := 10) (dq D_H_spreadDay_0_ok 6 rfl) fa_H_24 rfl (fun x4 => ?_)
  refine q_ldc2 (pc := 13) (v := 100) (dq D_H_spreadDay_0_ok 7 rfl) lk_H_51 ?_
  refine q_lmul (pc := 16) (dq D_H_spreadDay_0_ok 8 rfl) ?_
  refine r_putL (pc := 17) (dq D_H_spreadDay_0_ok 9 rfl) fp_H_24 rfl rfl (fun h5 => ?_)
  refine q_aload_n (pc := 20) (dq D_H_spreadDay_0_ok 10 rfl) rfl 0 rfl ?_
  refine q_dup (pc := 21) (dq D_H_spreadDay_0_ok 11 rfl) rfl ?_
  refine r_getL (pc := 22) (dq D_H_spreadDay_0_ok 12 rfl) fa_H_28 rfl (fun x6 => ?_)
  refine q_ldc2 (pc := 25) (v := 100) (dq D_H_spreadDay_0_ok 13 rfl) lk_H_51 ?_
  refine q_lmul (pc := 28) (dq D_H_spreadDay_0_ok 14 rfl) ?_
  refine r_putL (pc := 29) (dq D_H_spreadDay_0_ok 15 rfl) fp_H_28 rfl rfl (fun h7 => ?_)
  refine q_ic0 (pc := 32) (dq D_H_spreadDay_0_ok 16 rfl) ?_
  refine r_nmI (fun y8 => ?_)
  refine q_istore (pc := 33) (ls' := [(4, .int y8), (0, .ref v0), (1, .ref v1), (2, .int v2), (3, .int v3)]) (dq D_H_spreadDay_0_ok 17 rfl) rfl rfl ?_
  exact T.lsub [1, 2, 3, 4, 0] rfl (tl_H_spreadDay_35 FU (v0, v1, v2, v3, y8) h7)
noncomputable def b_H_spread_40 (k40 : (Nat × Nat × Nat × Int32 × Nat × Int32) → Hp → Option (Unit × Hp)) (v0 : Nat) (v1 : Nat) (v2 : Nat) (v4 : Int32) (v5 : Nat) (v6 : Int32) (h : Hp) : Option (Unit × Hp) := if v4 ≤ v6 then (some ((), h)) else (gd (ai h v2 0 0) (lt (hI h v2 (0 : Int32).toNatClampNeg) fun x1 => gd (ai h v2 0 1) (lt (hI h v2 (1 : Int32).toNatClampNeg) fun x2 => gd (hS h v5 = some (.inl 3)) (bd (f_W_goesOn v5 (x1 + v6) (x2 - v6) h) fun r4 h3 => gd (hS h3 v1 = some (.inl 2)) (lt (hI h3 v1 1) fun x5 => gd (hS h3 v0 = some (.inl 10)) (bd (f_H_spreadDay v0 v5 r4 x5 h3) fun _ h6 => k40 (v0, v1, v2, v4, v5, v6 + 1) h6))))))
set_option maxHeartbeats 4000000 in
set_option maxRecDepth 20000 in
theorem tb_H_spread_40 {G : GG} {k40 : (Nat × Nat × Nat × Int32 × Nat × Int32) → Hp → Option (Unit × Hp)} (hk40 : ∀ s h, T G M_H_spread 3 cU 40 [(0, .ref s.1), (1, .ref s.2.1), (2, .ref s.2.2.1), (4, .int s.2.2.2.1), (5, .ref s.2.2.2.2.1), (6, .int s.2.2.2.2.2)] [] h (k40 s h)) (v0 : Nat) (v1 : Nat) (v2 : Nat) (v4 : Int32) (v5 : Nat) (v6 : Int32) (h : Hp) : T G M_H_spread 3 cU 40 [(0, .ref v0), (1, .ref v1), (2, .ref v2), (4, .int v4), (5, .ref v5), (6, .int v6)] [] h (b_H_spread_40 k40 v0 v1 v2 v4 v5 v6 h) := by
  unfold b_H_spread_40
  refine q_iload (pc := 40) (dq D_H_spread_0_ok 26 rfl) 5 rfl ?_
  refine q_iload (pc := 42) (dq D_H_spread_0_ok 27 rfl) 3 rfl ?_
  refine q_ic_ge (pc := 44) 80 (dq D_H_spread_0_ok 28 rfl) rfl ?_ ?_
  · exact r_retu (pc := 80) (dq D_H_spread_0_ok 48 rfl) rfl
  · refine q_aload_n (pc := 47) (dq D_H_spread_0_ok 29 rfl) rfl 0 rfl ?_
    refine q_aload (pc := 48) (dq D_H_spread_0_ok 30 rfl) 4 rfl ?_
    refine q_aload (pc := 50) (dq D_H_spread_0_ok 31 rfl) 4 rfl ?_
    refine q_aload_n (pc := 52) (dq D_H_spread_0_ok 32 rfl) rfl 2 rfl ?_
    refine q_ic0 (pc := 53) (dq D_H_spread_0_ok 33 rfl) ?_
    refine r_iald (pc := 54) (dq D_H_spread_0_ok 34 rfl) (fun x1 => ?_)
    refine q_iload (pc := 55) (dq D_H_spread_0_ok 35 rfl) 5 rfl ?_
    refine q_iadd (pc := 57) (dq D_H_spread_0_ok 36 rfl) ?_
    refine q_aload_n (pc := 58) (dq D_H_spread_0_ok 37 rfl) rfl 2 rfl ?_
    refine q_ic1 (pc := 59) (dq D_H_spread_0_ok 38 rfl) ?_
    refine r_iald (pc := 60) (dq D_H_spread_0_ok 39 rfl) (fun x2 => ?_)
    refine q_iload (pc := 61) (dq D_H_spread_0_ok 40 rfl) 5 rfl ?_
    refine q_isub (pc := 63) (dq D_H_spread_0_ok 41 rfl) ?_
    refine r_invI (Mc := M_W_goesOn) (pc := 64) (ci := 3) (rest := [.ref v5, .ref v0]) 0 2 [.int (x1 + v6), .int (x2 - v6)] (dq D_H_spread_0_ok 42 rfl) rfl rfl lc_W_goesOn lv_W_goesOn_ ml_H_37 rfl rfl rfl rfl (t_W_goesOn v5 (x1 + v6) (x2 - v6) h) (fun r4 h3 => ?_)
    refine q_aload_n (pc := 67) (dq D_H_spread_0_ok 43 rfl) rfl 1 rfl ?_
    refine r_getI (pc := 68) (dq D_H_spread_0_ok 44 rfl) fa_H_43 rfl (fun x5 => ?_)
    refine r_invU (Mc := M_H_spreadDay) (pc := 71) (ci := 10) (rest := []) 2 3 [.ref v5, .int r4, .int x5] (dq D_H_spread_0_ok 45 rfl) rfl rfl lc_H_spreadDay lv_H_spreadDay_ ml_H_47 rfl rfl rfl rfl (t_H_spreadDay v0 v5 r4 x5 h3) (fun _ h6 => ?_)
    refine q_iinc (pc := 74) (v := (1)) (ls' := [(6, .int (v6 + 1)), (0, .ref v0), (1, .ref v1), (2, .ref v2), (4, .int v4), (5, .ref v5)]) (dq D_H_spread_0_ok 46 rfl) 5 rfl (by decide) rfl rfl ?_
    refine q_goto (pc := 77) 40 (dq D_H_spread_0_ok 47 rfl) rfl ?_
    exact T.lsub [1, 2, 3, 4, 5, 0] rfl (hk40 (v0, v1, v2, v4, v5, v6 + 1) h6)
noncomputable def l_H_spread_40 : Nat → (Nat × Nat × Nat × Int32 × Nat × Int32) → Hp → Option (Unit × Hp) := lp (fun k40 s h => b_H_spread_40 k40 s.1 s.2.1 s.2.2.1 s.2.2.2.1 s.2.2.2.2.1 s.2.2.2.2.2 h)
set_option maxHeartbeats 4000000 in
set_option maxRecDepth 20000 in
theorem tl_H_spread_40 {G : GG} (n : Nat) (s : Nat × Nat × Nat × Int32 × Nat × Int32) (h : Hp) : T G M_H_spread 3 cU 40 [(0, .ref s.1), (1, .ref s.2.1), (2, .ref s.2.2.1), (4, .int s.2.2.2.1), (5, .ref s.2.2.2.2.1), (6, .int s.2.2.2.2.2)] [] h (l_H_spread_40 n s h) :=
  T.loop (lsOf := fun s => [(0, .ref s.1), (1, .ref s.2.1), (2, .ref s.2.2.1), (4, .int s.2.2.2.1), (5, .ref s.2.2.2.2.1), (6, .int s.2.2.2.2.2)]) (fun k40 hk40 s h => tb_H_spread_40 hk40 s.1 s.2.1 s.2.2.1 s.2.2.2.1 s.2.2.2.2.1 s.2.2.2.2.2 h) n s h
noncomputable def f_H_spread (v0 : Nat) (v1 : Nat) (v2 : Nat) (v3 : Int32) (v4 : Int32) (h : Hp) : Option (Unit × Hp) := gd (hS h v0 = some (.inl 10)) (bR (hR h v0 0) fun x1 => bd (f_Arr_fillJ x1 (0 : Int64) h) fun _ h2 => gd (hS h2 v0 = some (.inl 10)) (bR (hR h2 v0 0) fun x4 => gd (ai h2 v2 0 (3 + v3)) (lt (hI h2 v2 (3 + v3).toNatClampNeg) fun x5 => gd (ai h2 x4 1 x5) (lt (uL h2 x4 x5.toNatClampNeg 1) fun h6 => gd (hS h6 v0 = some (.inl 10)) (lt (uL h6 v0 2 0) fun h7 => gd (hS h7 v0 = some (.inl 10)) (lt (uL h7 v0 3 1) fun h8 => gd (hS h8 v1 = some (.inl 2)) (bR (hR h8 v1 3) fun x9 => gd (ai h8 x9 4 v3) (bR (hR h8 x9 v3.toNatClampNeg) fun x10 => lt (0 : Int32) fun y11 => l_H_spread_40 FU (v0, v1, v2, v4, x10, y11) h8))))))))
set_option maxHeartbeats 4000000 in
set_option maxRecDepth 20000 in
theorem t_H_spread {G : GG} (v0 : Nat) (v1 : Nat) (v2 : Nat) (v3 : Int32) (v4 : Int32) (h : Hp) : Mt G M_H_spread 3 [.ref v0, .ref v1, .ref v2, .int v3, .int v4] cU h (f_H_spread v0 v1 v2 v3 v4 h) := by
  refine Mt.ofF (by decide +kernel) rfl (Rt.v rfl rfl) ?_
  show T G M_H_spread 3 cU 0 [(0, .ref v0), (1, .ref v1), (2, .ref v2), (3, .int v3), (4, .int v4)] [] h _
  unfold f_H_spread
  refine q_aload_n (pc := 0) (dq D_H_spread_0_ok 0 rfl) rfl 0 rfl ?_
  refine q_getR (pc := 1) (dq D_H_spread_0_ok 1 rfl) fa_H_9 rfl (fun x1 => ?_)
  refine q_lconst (pc := 4) (v := 0) (dq D_H_spread_0_ok 2 rfl) (by decide) ?_
  refine r_insU (Mc := M_Arr_fillJ) (pc := 5) (rest := []) 0 2 [.ref x1, .long 0] (dq D_H_spread_0_ok 3 rfl) lc_Arr_fillJ ls_Arr_fillJ ml_H_18 rfl rfl rfl rfl (t_Arr_fillJ x1 (0 : Int64) h) (fun _ h2 => ?_)
  refine q_aload_n (pc := 8) (dq D_H_spread_0_ok 4 rfl) rfl 0 rfl ?_
  refine q_getR (pc := 9) (dq D_H_spread_0_ok 5 rfl) fa_H_9 rfl (fun x4 => ?_)
  refine q_aload_n (pc := 12) (dq D_H_spread_0_ok 6 rfl) rfl 2 rfl ?_
  refine q_ic3 (pc := 13) (dq D_H_spread_0_ok 7 rfl) ?_
  refine q_iload_n (pc := 14) (dq D_H_spread_0_ok 8 rfl) rfl 3 rfl ?_
  refine q_iadd (pc := 15) (dq D_H_spread_0_ok 9 rfl) ?_
  refine r_iald (pc := 16) (dq D_H_spread_0_ok 10 rfl) (fun x5 => ?_)
  refine q_lconst (pc := 17) (v := 1) (dq D_H_spread_0_ok 11 rfl) (by decide) ?_
  refine r_last (pc := 18) (dq D_H_spread_0_ok 12 rfl) (fun h6 => ?_)
  refine q_aload_n (pc := 19) (dq D_H_spread_0_ok 13 rfl) rfl 0 rfl ?_
  refine q_lconst (pc := 20) (v := 0) (dq D_H_spread_0_ok 14 rfl) (by decide) ?_
  refine r_putL (pc := 21) (dq D_H_spread_0_ok 15 rfl) fp_H_24 rfl rfl (fun h7 => ?_)
  refine q_aload_n (pc := 24) (dq D_H_spread_0_ok 16 rfl) rfl 0 rfl ?_
  refine q_lconst (pc := 25) (v := 1) (dq D_H_spread_0_ok 17 rfl) (by decide) ?_
  refine r_putL (pc := 26) (dq D_H_spread_0_ok 18 rfl) fp_H_28 rfl rfl (fun h8 => ?_)
  refine q_aload_n (pc := 29) (dq D_H_spread_0_ok 19 rfl) rfl 1 rfl ?_
  refine q_getR (pc := 30) (dq D_H_spread_0_ok 20 rfl) fa_H_31 rfl (fun x9 => ?_)
  refine q_iload_n (pc := 33) (dq D_H_spread_0_ok 21 rfl) rfl 3 rfl ?_
  refine r_aald (pc := 34) 4 (dq D_H_spread_0_ok 22 rfl) rfl rfl (fun _ => rfl) (fun x10 => ?_)
  refine q_astore (pc := 35) (ls' := [(5, .ref x10), (0, .ref v0), (1, .ref v1), (2, .ref v2), (3, .int v3), (4, .int v4)]) (dq D_H_spread_0_ok 23 rfl) rfl rfl ?_
  refine q_ic0 (pc := 37) (dq D_H_spread_0_ok 24 rfl) ?_
  refine r_nmI (fun y11 => ?_)
  refine q_istore (pc := 38) (ls' := [(6, .int y11), (5, .ref x10), (0, .ref v0), (1, .ref v1), (2, .ref v2), (3, .int v3), (4, .int v4)]) (dq D_H_spread_0_ok 25 rfl) rfl rfl ?_
  exact T.lsub [2, 3, 4, 6, 1, 0] rfl (tl_H_spread_40 FU (v0, v1, v2, v4, x10, y11) h8)
noncomputable def b_H_commonDivisor_9 (k9 : (Int64 × Int64 × Int32) → Hp → Option (Int64 × Hp)) (v4 : Int64) (v6 : Int64) (v8 : Int32) (h : Hp) : Option (Int64 × Hp) := if 100 ≤ v8 then (some (v4, h)) else (if (lg_cmp v6 0) = 0 then (some (v4, h)) else (gd (¬ v6 = 0) (lt (lrm v4 v6 : Int64) fun y1 => k9 (v6, y1, v8 + 1) h)))
set_option maxHeartbeats 4000000 in
set_option maxRecDepth 20000 in
theorem tb_H_commonDivisor_9 {G : GG} {k9 : (Int64 × Int64 × Int32) → Hp → Option (Int64 × Hp)} (hk9 : ∀ s h, T G M_H_commonDivisor 0 cL 9 [(4, .long s.1), (6, .long s.2.1), (8, .int s.2.2)] [] h (k9 s h)) (v4 : Int64) (v6 : Int64) (v8 : Int32) (h : Hp) : T G M_H_commonDivisor 0 cL 9 [(4, .long v4), (6, .long v6), (8, .int v8)] [] h (b_H_commonDivisor_9 k9 v4 v6 v8 h) := by
  unfold b_H_commonDivisor_9
  refine q_iload (pc := 9) (dq D_H_commonDivisor_0_ok 6 rfl) 2 rfl ?_
  refine q_bipush (pc := 11) (v := 100) (dq D_H_commonDivisor_0_ok 7 rfl) (by decide) ?_
  refine q_ic_ge (pc := 13) 44 (dq D_H_commonDivisor_0_ok 8 rfl) rfl ?_ ?_
  · refine q_lload (pc := 44) (dq D_H_commonDivisor_0_ok 23 rfl) 0 rfl ?_
    exact r_retl (pc := 46) (dq D_H_commonDivisor_0_ok 24 rfl) rfl
  · refine q_lload (pc := 16) (dq D_H_commonDivisor_0_ok 9 rfl) 1 rfl ?_
    refine q_lconst (pc := 18) (v := 0) (dq D_H_commonDivisor_0_ok 10 rfl) (by decide) ?_
    refine q_lcmp (pc := 19) (dq D_H_commonDivisor_0_ok 11 rfl) ?_
    refine p_if_eq (pc := 20) 44 (dq D_H_commonDivisor_0_ok 12 rfl) rfl ?_ ?_
    · refine q_lload (pc := 44) (dq D_H_commonDivisor_0_ok 23 rfl) 0 rfl ?_
      exact r_retl (pc := 46) (dq D_H_commonDivisor_0_ok 24 rfl) rfl
    · refine q_lload (pc := 23) (dq D_H_commonDivisor_0_ok 13 rfl) 0 rfl ?_
      refine q_lload (pc := 25) (dq D_H_commonDivisor_0_ok 14 rfl) 1 rfl ?_
      refine q_lrem (pc := 27) (dq D_H_commonDivisor_0_ok 15 rfl) ?_
      refine r_nmL (fun y1 => ?_)
      refine q_lstore (pc := 28) (ls' := [(9, .long y1), (4, .long v4), (6, .long v6), (8, .int v8)]) (dq D_H_commonDivisor_0_ok 16 rfl) rfl rfl ?_
      refine q_lload (pc := 30) (dq D_H_commonDivisor_0_ok 17 rfl) 2 rfl ?_
      refine q_lstore (pc := 32) (ls' := [(4, .long v6), (9, .long y1), (6, .long v6), (8, .int v8)]) (dq D_H_commonDivisor_0_ok 18 rfl) rfl rfl ?_
      refine q_lload (pc := 34) (dq D_H_commonDivisor_0_ok 19 rfl) 1 rfl ?_
      refine q_lstore (pc := 36) (ls' := [(6, .long y1), (4, .long v6), (9, .long y1), (8, .int v8)]) (dq D_H_commonDivisor_0_ok 20 rfl) rfl rfl ?_
      refine q_iinc (pc := 38) (v := (1)) (ls' := [(8, .int (v8 + 1)), (6, .long y1), (4, .long v6), (9, .long y1)]) (dq D_H_commonDivisor_0_ok 21 rfl) 3 rfl (by decide) rfl rfl ?_
      refine q_goto (pc := 41) 9 (dq D_H_commonDivisor_0_ok 22 rfl) rfl ?_
      exact T.lsub [2, 1, 0] rfl (hk9 (v6, y1, v8 + 1) h)
noncomputable def l_H_commonDivisor_9 : Nat → (Int64 × Int64 × Int32) → Hp → Option (Int64 × Hp) := lp (fun k9 s h => b_H_commonDivisor_9 k9 s.1 s.2.1 s.2.2 h)
set_option maxHeartbeats 4000000 in
set_option maxRecDepth 20000 in
theorem tl_H_commonDivisor_9 {G : GG} (n : Nat) (s : Int64 × Int64 × Int32) (h : Hp) : T G M_H_commonDivisor 0 cL 9 [(4, .long s.1), (6, .long s.2.1), (8, .int s.2.2)] [] h (l_H_commonDivisor_9 n s h) :=
  T.loop (lsOf := fun s => [(4, .long s.1), (6, .long s.2.1), (8, .int s.2.2)]) (fun k9 hk9 s h => tb_H_commonDivisor_9 hk9 s.1 s.2.1 s.2.2 h) n s h
noncomputable def f_H_commonDivisor (v0 : Int64) (v2 : Int64) (h : Hp) : Option (Int64 × Hp) := lt (0 : Int32) fun y1 => l_H_commonDivisor_9 FU (v0, v2, y1) h
set_option maxHeartbeats 4000000 in
set_option maxRecDepth 20000 in
theorem t_H_commonDivisor {G : GG} (v0 : Int64) (v2 : Int64) (h : Hp) : Mt G M_H_commonDivisor 0 [.long v0, .long v2] cL h (f_H_commonDivisor v0 v2 h) := by
  refine Mt.ofF (by decide +kernel) rfl (Rt.l rfl rfl) ?_
  show T G M_H_commonDivisor 0 cL 0 [(0, .long v0), (2, .long v2)] [] h _
  unfold f_H_commonDivisor
  refine q_lload_n (pc := 0) (dq D_H_commonDivisor_0_ok 0 rfl) rfl 0 rfl ?_
  refine q_lstore (pc := 1) (ls' := [(4, .long v0), (0, .long v0), (2, .long v2)]) (dq D_H_commonDivisor_0_ok 1 rfl) rfl rfl ?_
  refine q_lload_n (pc := 3) (dq D_H_commonDivisor_0_ok 2 rfl) rfl 2 rfl ?_
  refine q_lstore (pc := 4) (ls' := [(6, .long v2), (4, .long v0), (0, .long v0), (2, .long v2)]) (dq D_H_commonDivisor_0_ok 3 rfl) rfl rfl ?_
  refine q_ic0 (pc := 6) (dq D_H_commonDivisor_0_ok 4 rfl) ?_
  refine r_nmI (fun y1 => ?_)
  refine q_istore (pc := 7) (ls' := [(8, .int y1), (6, .long v2), (4, .long v0), (0, .long v0), (2, .long v2)]) (dq D_H_commonDivisor_0_ok 5 rfl) rfl rfl ?_
  exact T.lsub [2, 1, 0] rfl (tl_H_commonDivisor_9 FU (v0, v2, y1) h)
noncomputable def b_H_lowest_22 (v4 : Int64) (s0 : Int64) (h : Hp) : Option (Int64 × Hp) := if (lg_cmp v4 0) ≤ 0 then (some (s0, h)) else (gd (¬ v4 = 0) (some (s0 / v4, h)))
set_option maxHeartbeats 4000000 in
set_option maxRecDepth 20000 in
theorem tb_H_lowest_22 {G : GG} (v4 : Int64) (s0 : Int64) (h : Hp) : T G M_H_lowest 1 cL 22 [(4, .long v4)] [.long s0] h (b_H_lowest_22 v4 s0 h) := by
  unfold b_H_lowest_22
  refine q_lstore (pc := 22) (ls' := [(6, .long s0), (4, .long v4)]) (dq D_H_lowest_0_ok 11 rfl) rfl rfl ?_
  refine q_lload (pc := 24) (dq D_H_lowest_0_ok 12 rfl) 1 rfl ?_
  refine q_lconst (pc := 26) (v := 0) (dq D_H_lowest_0_ok 13 rfl) (by decide) ?_
  refine q_lcmp (pc := 27) (dq D_H_lowest_0_ok 14 rfl) ?_
  refine p_if_le (pc := 28) 39 (dq D_H_lowest_0_ok 15 rfl) rfl ?_ ?_
  · refine q_lload (pc := 39) (dq D_H_lowest_0_ok 20 rfl) 0 rfl ?_
    exact r_retl (pc := 41) (dq D_H_lowest_0_ok 21 rfl) rfl
  · refine q_lload (pc := 31) (dq D_H_lowest_0_ok 16 rfl) 0 rfl ?_
    refine q_lload (pc := 33) (dq D_H_lowest_0_ok 17 rfl) 1 rfl ?_
    refine q_ldiv (pc := 35) (dq D_H_lowest_0_ok 18 rfl) ?_
    refine q_goto (pc := 36) 41 (dq D_H_lowest_0_ok 19 rfl) rfl ?_
    exact r_retl (pc := 41) (dq D_H_lowest_0_ok 21 rfl) rfl
noncomputable def f_H_lowest (v0 : Nat) (v1 : Int64) (v3 : Int32) (h : Hp) : Option (Int64 × Hp) := gd (hS h v0 = some (.inl 10)) (lt (hL h v0 3) fun x1 => bd (f_H_commonDivisor v1 x1 h) fun r3 h2 => if v3 = 0 then (b_H_lowest_22 r3 v1 h2) else (gd (hS h2 v0 = some (.inl 10)) (lt (hL h2 v0 3) fun x4 => b_H_lowest_22 r3 x4 h2)))
set_option maxHeartbeats 4000000 in
set_option maxRecDepth 20000 in
theorem t_H_lowest {G : GG} (v0 : Nat) (v1 : Int64) (v3 : Int32) (h : Hp) : Mt G M_H_lowest 1 [.ref v0, .long v1, .int v3] cL h (f_H_lowest v0 v1 v3 h) := by
  refine Mt.ofF (by decide +kernel) rfl (Rt.l rfl rfl) ?_
  show T G M_H_lowest 1 cL 0 [(0, .ref v0), (1, .long v1), (3, .int v3)] [] h _
  unfold f_H_lowest
  refine q_lload_n (pc := 0) (dq D_H_lowest_0_ok 0 rfl) rfl 1 rfl ?_
  refine q_aload_n (pc := 1) (dq D_H_lowest_0_ok 1 rfl) rfl 0 rfl ?_
  refine r_getL (pc := 2) (dq D_H_lowest_0_ok 2 rfl) fa_H_28 rfl (fun x1 => ?_)
  refine r_insL (Mc := M_H_commonDivisor) (pc := 5) (rest := []) 0 2 [.long v1, .long x1] (dq D_H_lowest_0_ok 3 rfl) lc_H_commonDivisor ls_H_commonDivisor ml_H_79 rfl rfl rfl rfl (t_H_commonDivisor v1 x1 h) (fun r3 h2 => ?_)
  refine q_lstore (pc := 8) (ls' := [(4, .long r3), (0, .ref v0), (1, .long v1), (3, .int v3)]) (dq D_H_lowest_0_ok 4 rfl) rfl rfl ?_
  refine q_iload_n (pc := 10) (dq D_H_lowest_0_ok 5 rfl) rfl 3 rfl ?_
  refine p_if_eq (pc := 11) 21 (dq D_H_lowest_0_ok 6 rfl) rfl ?_ ?_
  · refine q_lload_n (pc := 21) (dq D_H_lowest_0_ok 10 rfl) rfl 2 rfl ?_
    exact T.lsub [0] rfl (tb_H_lowest_22 r3 v1 h2)
  · refine q_aload_n (pc := 14) (dq D_H_lowest_0_ok 7 rfl) rfl 1 rfl ?_
    refine r_getL (pc := 15) (dq D_H_lowest_0_ok 8 rfl) fa_H_28 rfl (fun x4 => ?_)
    refine q_goto (pc := 18) 22 (dq D_H_lowest_0_ok 9 rfl) rfl ?_
    exact T.lsub [0] rfl (tb_H_lowest_22 r3 x4 h2)
noncomputable def b_B_likely_41 (v0 : Nat) (h : Hp) : Option (Int64 × Hp) := gd (hS h v0 = some (.inl 0)) (bd (f_B_refuse v0 (2 : Int32) h) fun r2 h1 => some (r2.toInt64, h1))
set_option maxHeartbeats 4000000 in
set_option maxRecDepth 20000 in
theorem tb_B_likely_41 {G : GG} (v0 : Nat) (h : Hp) : T G M_B_likely 4 cL 41 [(0, .ref v0)] [] h (b_B_likely_41 v0 h) := by
  unfold b_B_likely_41
  refine q_aload_n (pc := 41) (dq D_B_likely_0_ok 22 rfl) rfl 0 rfl ?_
  refine q_ic2 (pc := 42) (dq D_B_likely_0_ok 23 rfl) ?_
  refine r_invI (Mc := M_B_refuse) (pc := 43) (ci := 0) (rest := []) 0 1 [.int 2] (dq D_B_likely_0_ok 24 rfl) rfl rfl lc_B_refuse lv_B_refuse_ ml_B_87 rfl rfl rfl rfl (t_B_refuse v0 (2 : Int32) h) (fun r2 h1 => ?_)
  refine q_i2l (pc := 46) (dq D_B_likely_0_ok 25 rfl) ?_
  exact r_retl (pc := 47) (dq D_B_likely_0_ok 26 rfl) rfl
noncomputable def f_B_likely (v0 : Nat) (v1 : Int32) (v2 : Int32) (v3 : Int32) (v4 : Int32) (h : Hp) : Option (Int64 × Hp) := gd (hS h v0 = some (.inl 0)) (bd (f_B_hasWheel v0 v1 h) fun r2 h1 => if r2 = 0 then (gd (hS h1 v0 = some (.inl 0)) (bd (f_B_refuse v0 (1 : Int32) h1) fun r22 h21 => some (r22.toInt64, h21))) else (gd (hS h1 v0 = some (.inl 0)) (bR (hR h1 v0 3) fun x3 => gd (hS h1 x3 = some (.inl 2)) (bR (hR h1 x3 3) fun x4 => gd (ai h1 x4 4 v1) (bR (hR h1 x4 v1.toNatClampNeg) fun x5 => gd (hS h1 x5 = some (.inl 3)) (bd (f_W_hasTooth x5 v2 h1) fun r7 h6 => if r7 = 0 then (b_B_likely_41 v0 h6) else (if v3 < 0 then (b_B_likely_41 v0 h6) else (if v3 ≤ 6 then (gd (hS h6 v0 = some (.inl 0)) (bd (f_B_grant v0 (0 : Int32) h6) fun r9 h8 => gd (hS h8 v0 = some (.inl 0)) (bR (hR h8 v0 13) fun x10 => gd (hS h8 v0 = some (.inl 0)) (bR (hR h8 v0 3) fun x11 => gd (hS h8 v0 = some (.inl 0)) (bR (hR h8 v0 5) fun x12 => gd (hS h8 x10 = some (.inl 10)) (bd (f_H_spread x10 x11 x12 v1 v3 h8) fun _ h13 => gd (hS h13 v0 = some (.inl 0)) (bR (hR h13 v0 13) fun x15 => gd (hS h13 v0 = some (.inl 0)) (bR (hR h13 v0 13) fun x16 => gd (hS h13 x16 = some (.inl 10)) (bR (hR h13 x16 0) fun x17 => gd (ai h13 x17 1 v2) (lt (hL h13 x17 v2.toNatClampNeg) fun x18 => gd (hS h13 x15 = some (.inl 10)) (bd (f_H_lowest x15 x18 v4 h13) fun r20 h19 => some (r20, h19)))))))))))) else (b_B_likely_41 v0 h6)))))))))
set_option maxHeartbeats 4000000 in
set_option maxRecDepth 20000 in
theorem t_B_likely {G : GG} (v0 : Nat) (v1 : Int32) (v2 : Int32) (v3 : Int32) (v4 : Int32) (h : Hp) : Mt G M_B_likely 4 [.ref v0, .int v1, .int v2, .int v3, .int v4] cL h (f_B_likely v0 v1 v2 v3 v4 h) := by
  refine Mt.ofF (by decide +kernel) rfl (Rt.l rfl rfl) ?_
  show T G M_B_likely 4 cL 0 [(0, .ref v0), (1, .int v1), (2, .int v2), (3, .int v3), (4, .int v4)] [] h _
  unfold f_B_likely
  refine q_aload_n (pc := 0) (dq D_B_likely_0_ok 0 rfl) rfl 0 rfl ?_
  refine q_iload_n (pc := 1) (dq D_B_likely_0_ok 1 rfl) rfl 1 rfl ?_
  refine r_invI (Mc := M_B_hasWheel) (pc := 2) (ci := 0) (rest := []) 0 1 [.int v1] (dq D_B_likely_0_ok 2 rfl) rfl rfl lc_B_hasWheel lv_B_hasWheel_ ml_B_118 rfl rfl rfl rfl (t_B_hasWheel v0 v1 h) (fun r2 h1 => ?_)
  refine p_if_ne (pc := 5) 15 (dq D_B_likely_0_ok 3 rfl) rfl ?_ ?_
  · refine q_aload_n (pc := 15) (dq D_B_likely_0_ok 9 rfl) rfl 0 rfl ?_
    refine q_getR (pc := 16) (dq D_B_likely_0_ok 10 rfl) fa_B_23 rfl (fun x3 => ?_)
    refine q_getR (pc := 19) (dq D_B_likely_0_ok 11 rfl) fa_B_122 rfl (fun x4 => ?_)
    refine q_iload_n (pc := 22) (dq D_B_likely_0_ok 12 rfl) rfl 1 rfl ?_
    refine r_aald (pc := 23) 4 (dq D_B_likely_0_ok 13 rfl) rfl rfl (fun _ => rfl) (fun x5 => ?_)
    refine q_iload_n (pc := 24) (dq D_B_likely_0_ok 14 rfl) rfl 2 rfl ?_
    refine r_invI (Mc := M_W_hasTooth) (pc := 25) (ci := 3) (rest := []) 0 1 [.int v2] (dq D_B_likely_0_ok 15 rfl) rfl rfl lc_W_hasTooth lv_W_hasTooth_ ml_B_143 rfl rfl rfl rfl (t_W_hasTooth x5 v2 h1) (fun r7 h6 => ?_)
    refine p_if_eq (pc := 28) 41 (dq D_B_likely_0_ok 16 rfl) rfl ?_ ?_
    · exact T.lsub [0] rfl (tb_B_likely_41 v0 h6)
    · refine q_iload_n (pc := 31) (dq D_B_likely_0_ok 17 rfl) rfl 3 rfl ?_
      refine p_if_lt (pc := 32) 41 (dq D_B_likely_0_ok 18 rfl) rfl ?_ ?_
      · exact T.lsub [0] rfl (tb_B_likely_41 v0 h6)
      · refine q_iload_n (pc := 35) (dq D_B_likely_0_ok 19 rfl) rfl 3 rfl ?_
        refine q_bipush (pc := 36) (v := 6) (dq D_B_likely_0_ok 20 rfl) (by decide) ?_
        refine q_ic_le (pc := 38) 48 (dq D_B_likely_0_ok 21 rfl) rfl ?_ ?_
        · refine q_aload_n (pc := 48) (dq D_B_likely_0_ok 27 rfl) rfl 0 rfl ?_
          refine q_ic0 (pc := 49) (dq D_B_likely_0_ok 28 rfl) ?_
          refine r_invI (Mc := M_B_grant) (pc := 50) (ci := 0) (rest := []) 0 1 [.int 0] (dq D_B_likely_0_ok 29 rfl) rfl rfl lc_B_grant lv_B_grant_ ml_B_109 rfl rfl rfl rfl (t_B_grant v0 (0 : Int32) h6) (fun r9 h8 => ?_)
          refine q_pop (pc := 53) (dq D_B_likely_0_ok 30 rfl) rfl ?_
          refine q_aload_n (pc := 54) (dq D_B_likely_0_ok 31 rfl) rfl 0 rfl ?_
          refine q_getR (pc := 55) (dq D_B_likely_0_ok 32 rfl) fa_B_75 rfl (fun x10 => ?_)
          refine q_aload_n (pc := 58) (dq D_B_likely_0_ok 33 rfl) rfl 0 rfl ?_
          refine q_getR (pc := 59) (dq D_B_likely_0_ok 34 rfl) fa_B_23 rfl (fun x11 => ?_)
          refine q_aload_n (pc := 62) (dq D_B_likely_0_ok 35 rfl) rfl 0 rfl ?_
          refine q_getR (pc := 63) (dq D_B_likely_0_ok 36 rfl) fa_B_30 rfl (fun x12 => ?_)
          refine q_iload_n (pc := 66) (dq D_B_likely_0_ok 37 rfl) rfl 1 rfl ?_
          refine q_iload_n (pc := 67) (dq D_B_likely_0_ok 38 rfl) rfl 3 rfl ?_
          refine r_invU (Mc := M_H_spread) (pc := 68) (ci := 10) (rest := []) 3 4 [.ref x11, .ref x12, .int v1, .int v3] (dq D_B_likely_0_ok 39 rfl) rfl rfl lc_H_spread lv_H_spread_ ml_B_288 rfl rfl rfl rfl (t_H_spread x10 x11 x12 v1 v3 h8) (fun _ h13 => ?_)
          refine q_aload_n (pc := 71) (dq D_B_likely_0_ok 40 rfl) rfl 0 rfl ?_
          refine q_getR (pc := 72) (dq D_B_likely_0_ok 41 rfl) fa_B_75 rfl (fun x15 => ?_)
          refine q_aload_n (pc := 75) (dq D_B_likely_0_ok 42 rfl) rfl 0 rfl ?_
          refine q_getR (pc := 76) (dq D_B_likely_0_ok 43 rfl) fa_B_75 rfl (fun x16 => ?_)
          refine q_getR (pc := 79) (dq D_B_likely_0_ok 44 rfl) fa_B_292 rfl (fun x17 => ?_)
          refine q_iload_n (pc := 82) (dq D_B_likely_0_ok 45 rfl) rfl 2 rfl ?_
          refine r_lald (pc := 83) (dq D_B_likely_0_ok 46 rfl) (fun x18 => ?_)
          refine q_iload (pc := 84) (dq D_B_likely_0_ok 47 rfl) 4 rfl ?_
          refine r_invL (Mc := M_H_lowest) (pc := 86) (ci := 10) (rest := []) 1 2 [.long x18, .int v4] (dq D_B_likely_0_ok 48 rfl) rfl rfl lc_H_lowest lv_H_lowest_ ml_B_296 rfl rfl rfl rfl (t_H_lowest x15 x18 v4 h13) (fun r20 h19 => ?_)
          exact r_retl (pc := 89) (dq D_B_likely_0_ok 49 rfl) rfl
        · exact T.lsub [0] rfl (tb_B_likely_41 v0 h6)
  · refine q_aload_n (pc := 8) (dq D_B_likely_0_ok 4 rfl) rfl 0 rfl ?_
    refine q_ic1 (pc := 9) (dq D_B_likely_0_ok 5 rfl) ?_
    refine r_invI (Mc := M_B_refuse) (pc := 10) (ci := 0) (rest := []) 0 1 [.int 1] (dq D_B_likely_0_ok 6 rfl) rfl rfl lc_B_refuse lv_B_refuse_ ml_B_87 rfl rfl rfl rfl (t_B_refuse v0 (1 : Int32) h1) (fun r22 h21 => ?_)
    refine q_i2l (pc := 13) (dq D_B_likely_0_ok 7 rfl) ?_
    exact r_retl (pc := 14) (dq D_B_likely_0_ok 8 rfl) rfl
