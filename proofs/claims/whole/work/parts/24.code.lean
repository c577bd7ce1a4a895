noncomputable def f_C_feastFrom (v0 : Nat) (v1 : Int32) (v2 : Int32) (v3 : Int32) (h : Hp) : Option (Int32 × Hp) := gd (hS h v0 = some (.inl 5)) (bd (f_C_firstDay v0 v1 v1 (0 : Int32) v2 v3 h) fun r2 h1 => some (r2, h1))
set_option maxHeartbeats 4000000 in
set_option maxRecDepth 20000 in
theorem t_C_feastFrom {G : GG} (v0 : Nat) (v1 : Int32) (v2 : Int32) (v3 : Int32) (h : Hp) : Mt G M_C_feastFrom 5 [.ref v0, .int v1, .int v2, .int v3] cI h (f_C_feastFrom v0 v1 v2 v3 h) := by
  refine Mt.ofF (by decide +kernel) rfl (Rt.i rfl rfl) ?_
  show T G M_C_feastFrom 5 cI 0 [(0, .ref v0), (1, .int v1), (2, .int v2), (3, .int v3)] [] h _
  unfold f_C_feastFrom
  refine q_aload_n (pc := 0) (dq D_C_feastFrom_0_ok 0 rfl) rfl 0 rfl ?_
  refine q_iload_n (pc := 1) (dq D_C_feastFrom_0_ok 1 rfl) rfl 1 rfl ?_
  refine q_iload_n (pc := 2) (dq D_C_feastFrom_0_ok 2 rfl) rfl 1 rfl ?_
  refine q_ic0 (pc := 3) (dq D_C_feastFrom_0_ok 3 rfl) ?_
  refine q_iload_n (pc := 4) (dq D_C_feastFrom_0_ok 4 rfl) rfl 2 rfl ?_
  refine q_iload_n (pc := 5) (dq D_C_feastFrom_0_ok 5 rfl) rfl 3 rfl ?_
  refine r_invI (Mc := M_C_firstDay) (pc := 6) (ci := 5) (rest := []) 4 5 [.int v1, .int v1, .int 0, .int v2, .int v3] (dq D_C_feastFrom_0_ok 6 rfl) rfl rfl lc_C_firstDay lv_C_firstDay_ ml_C_60 rfl rfl rfl rfl (t_C_firstDay v0 v1 v1 (0 : Int32) v2 v3 h) (fun r2 h1 => ?_)
  exact r_reti (pc := 9) (dq D_C_feastFrom_0_ok 7 rfl) rfl
noncomputable def f_B_next (v0 : Nat) (v1 : Int32) (h : Hp) : Option (Int32 × Hp) := gd (hS h v0 = some (.inl 0)) (bd (f_B_hasFeast v0 v1 h) fun r2 h1 => if r2 = 0 then (gd (hS h1 v0 = some (.inl 0)) (bd (f_B_refuse v0 (1 : Int32) h1) fun r10 h9 => some (r10, h9))) else (gd (hS h1 v0 = some (.inl 0)) (bd (f_B_daysToCome v0 h1) fun r4 h3 => gd (hS h3 r4 = some (.inl 5)) (bd (f_C_feastFrom r4 v1 (1 : Int32) (5000 : Int32) h3) fun r6 h5 => gd (hS h5 v0 = some (.inl 0)) (bd (f_B_grant v0 r6 h5) fun r8 h7 => some (r8, h7))))))
set_option maxHeartbeats 4000000 in
set_option maxRecDepth 20000 in
theorem t_B_next {G : GG} (v0 : Nat) (v1 : Int32) (h : Hp) : Mt G M_B_next 6 [.ref v0, .int v1] cI h (f_B_next v0 v1 h) := by
  refine Mt.ofF (by decide +kernel) rfl (Rt.i rfl rfl) ?_
  show T G M_B_next 6 cI 0 [(0, .ref v0), (1, .int v1)] [] h _
  unfold f_B_next
  refine q_aload_n (pc := 0) (dq D_B_next_0_ok 0 rfl) rfl 0 rfl ?_
  refine q_iload_n (pc := 1) (dq D_B_next_0_ok 1 rfl) rfl 1 rfl ?_
  refine r_invI (Mc := M_B_hasFeast) (pc := 2) (ci := 0) (rest := []) 0 1 [.int v1] (dq D_B_next_0_ok 2 rfl) rfl rfl lc_B_hasFeast lv_B_hasFeast_ ml_B_189 rfl rfl rfl rfl (t_B_hasFeast v0 v1 h) (fun r2 h1 => ?_)
  refine p_if_ne (pc := 5) 14 (dq D_B_next_0_ok 3 rfl) rfl ?_ ?_
  · refine q_aload_n (pc := 14) (dq D_B_next_0_ok 8 rfl) rfl 0 rfl ?_
    refine q_aload_n (pc := 15) (dq D_B_next_0_ok 9 rfl) rfl 0 rfl ?_
    refine r_invA (Mc := M_B_daysToCome) (pc := 16) (ci := 0) (rest := [.ref v0]) 4 0 [] (dq D_B_next_0_ok 10 rfl) rfl rfl lc_B_daysToCome lv_B_daysToCome_ ml_B_192 rfl rfl rfl rfl (t_B_daysToCome v0 h1) (fun r4 h3 => ?_)
    refine q_iload_n (pc := 19) (dq D_B_next_0_ok 11 rfl) rfl 1 rfl ?_
    refine q_ic1 (pc := 20) (dq D_B_next_0_ok 12 rfl) ?_
    refine q_sipush (pc := 21) (v := 5000) (dq D_B_next_0_ok 13 rfl) (by decide) ?_
    refine r_invI (Mc := M_C_feastFrom) (pc := 24) (ci := 5) (rest := [.ref v0]) 5 3 [.int v1, .int 1, .int 5000] (dq D_B_next_0_ok 14 rfl) rfl rfl lc_C_feastFrom lv_C_feastFrom_ ml_B_196 rfl rfl rfl rfl (t_C_feastFrom r4 v1 (1 : Int32) (5000 : Int32) h3) (fun r6 h5 => ?_)
    refine r_invI (Mc := M_B_grant) (pc := 27) (ci := 0) (rest := []) 0 1 [.int r6] (dq D_B_next_0_ok 15 rfl) rfl rfl lc_B_grant lv_B_grant_ ml_B_109 rfl rfl rfl rfl (t_B_grant v0 r6 h5) (fun r8 h7 => ?_)
    exact r_reti (pc := 30) (dq D_B_next_0_ok 16 rfl) rfl
  · refine q_aload_n (pc := 8) (dq D_B_next_0_ok 4 rfl) rfl 0 rfl ?_
    refine q_ic1 (pc := 9) (dq D_B_next_0_ok 5 rfl) ?_
    refine r_invI (Mc := M_B_refuse) (pc := 10) (ci := 0) (rest := []) 0 1 [.int 1] (dq D_B_next_0_ok 6 rfl) rfl rfl lc_B_refuse lv_B_refuse_ ml_B_87 rfl rfl rfl rfl (t_B_refuse v0 (1 : Int32) h1) (fun r10 h9 => ?_)
    exact r_reti (pc := 13) (dq D_B_next_0_ok 7 rfl) rfl
noncomputable def b_C_feastsUntil_14 (k14 : (Nat × Int32 × Int32 × Int32 × Int32 × Int32) → Hp → Option (Int32 × Hp)) (v0 : Nat) (v1 : Int32) (v2 : Int32) (v3 : Int32) (v4 : Int32) (v5 : Int32) (h : Hp) : Option (Int32 × Hp) := if v2 ≤ v5 then (some (v3, h)) else (if v4 = ((-2)) then (some (v3, h)) else (gd (hS h v0 = some (.inl 5)) (bd (f_C_feastFrom v0 v1 (v4 + 1) v2 h) fun r2 h1 => k14 (v0, v1, v2, v3 + 1, r2, v5 + 1) h1)))
set_option maxHeartbeats 4000000 in
set_option maxRecDepth 20000 in
theorem tb_C_feastsUntil_14 {G : GG} {k14 : (Nat × Int32 × Int32 × Int32 × Int32 × Int32) → Hp → Option (Int32 × Hp)} (hk14 : ∀ s h, T G M_C_feastsUntil 6 cI 14 [(0, .ref s.1), (1, .int s.2.1), (2, .int s.2.2.1), (3, .int s.2.2.2.1), (4, .int s.2.2.2.2.1), (5, .int s.2.2.2.2.2)] [] h (k14 s h)) (v0 : Nat) (v1 : Int32) (v2 : Int32) (v3 : Int32) (v4 : Int32) (v5 : Int32) (h : Hp) : T G M_C_feastsUntil 6 cI 14 [(0, .ref v0), (1, .int v1), (2, .int v2), (3, .int v3), (4, .int v4), (5, .int v5)] [] h (b_C_feastsUntil_14 k14 v0 v1 v2 v3 v4 v5 h) := by
  unfold b_C_feastsUntil_14
  refine q_iload (pc := 14) (dq D_C_feastsUntil_0_ok 10 rfl) 5 rfl ?_
  refine q_iload_n (pc := 16) (dq D_C_feastsUntil_0_ok 11 rfl) rfl 2 rfl ?_
  refine q_ic_ge (pc := 17) 48 (dq D_C_feastsUntil_0_ok 12 rfl) rfl ?_ ?_
  · refine q_iload_n (pc := 48) (dq D_C_feastsUntil_0_ok 27 rfl) rfl 3 rfl ?_
    exact r_reti (pc := 49) (dq D_C_feastsUntil_0_ok 28 rfl) rfl
  · refine q_iload (pc := 20) (dq D_C_feastsUntil_0_ok 13 rfl) 4 rfl ?_
    refine q_bipush (pc := 22) (v := (-2)) (dq D_C_feastsUntil_0_ok 14 rfl) (by decide) ?_
    refine q_ic_eq (pc := 24) 48 (dq D_C_feastsUntil_0_ok 15 rfl) rfl ?_ ?_
    · refine q_iload_n (pc := 48) (dq D_C_feastsUntil_0_ok 27 rfl) rfl 3 rfl ?_
      exact r_reti (pc := 49) (dq D_C_feastsUntil_0_ok 28 rfl) rfl
    · refine q_iinc (pc := 27) (v := (1)) (ls' := [(3, .int (v3 + 1)), (0, .ref v0), (1, .int v1), (2, .int v2), (4, .int v4), (5, .int v5)]) (dq D_C_feastsUntil_0_ok 16 rfl) 3 rfl (by decide) rfl rfl ?_
      refine q_aload_n (pc := 30) (dq D_C_feastsUntil_0_ok 17 rfl) rfl 1 rfl ?_
      refine q_iload_n (pc := 31) (dq D_C_feastsUntil_0_ok 18 rfl) rfl 2 rfl ?_
      refine q_iload (pc := 32) (dq D_C_feastsUntil_0_ok 19 rfl) 4 rfl ?_
      refine q_ic1 (pc := 34) (dq D_C_feastsUntil_0_ok 20 rfl) ?_
      refine q_iadd (pc := 35) (dq D_C_feastsUntil_0_ok 21 rfl) ?_
      refine q_iload_n (pc := 36) (dq D_C_feastsUntil_0_ok 22 rfl) rfl 3 rfl ?_
      refine r_invI (Mc := M_C_feastFrom) (pc := 37) (ci := 5) (rest := []) 5 3 [.int v1, .int (v4 + 1), .int v2] (dq D_C_feastsUntil_0_ok 23 rfl) rfl rfl lc_C_feastFrom lv_C_feastFrom_ ml_C_82 rfl rfl rfl rfl (t_C_feastFrom v0 v1 (v4 + 1) v2 h) (fun r2 h1 => ?_)
      refine q_istore (pc := 40) (ls' := [(4, .int r2), (3, .int (v3 + 1)), (0, .ref v0), (1, .int v1), (2, .int v2), (5, .int v5)]) (dq D_C_feastsUntil_0_ok 24 rfl) rfl rfl ?_
      refine q_iinc (pc := 42) (v := (1)) (ls' := [(5, .int (v5 + 1)), (4, .int r2), (3, .int (v3 + 1)), (0, .ref v0), (1, .int v1), (2, .int v2)]) (dq D_C_feastsUntil_0_ok 25 rfl) 5 rfl (by decide) rfl rfl ?_
      refine q_goto (pc := 45) 14 (dq D_C_feastsUntil_0_ok 26 rfl) rfl ?_
      exact T.lsub [3, 4, 5, 2, 1, 0] rfl (hk14 (v0, v1, v2, v3 + 1, r2, v5 + 1) h1)
noncomputable def l_C_feastsUntil_14 : Nat → (Nat × Int32 × Int32 × Int32 × Int32 × Int32) → Hp → Option (Int32 × Hp) := lp (fun k14 s h => b_C_feastsUntil_14 k14 s.1 s.2.1 s.2.2.1 s.2.2.2.1 s.2.2.2.2.1 s.2.2.2.2.2 h)
set_option maxHeartbeats 4000000 in
set_option maxRecDepth 20000 in
theorem tl_C_feastsUntil_14 {G : GG} (n : Nat) (s : Nat × Int32 × Int32 × Int32 × Int32 × Int32) (h : Hp) : T G M_C_feastsUntil 6 cI 14 [(0, .ref s.1), (1, .int s.2.1), (2, .int s.2.2.1), (3, .int s.2.2.2.1), (4, .int s.2.2.2.2.1), (5, .int s.2.2.2.2.2)] [] h (l_C_feastsUntil_14 n s h) :=
  T.loop (lsOf := fun s => [(0, .ref s.1), (1, .int s.2.1), (2, .int s.2.2.1), (3, .int s.2.2.2.1), (4, .int s.2.2.2.2.1), (5, .int s.2.2.2.2.2)]) (fun k14 hk14 s h => tb_C_feastsUntil_14 hk14 s.1 s.2.1 s.2.2.1 s.2.2.2.1 s.2.2.2.2.1 s.2.2.2.2.2 h) n s h
noncomputable def f_C_feastsUntil (v0 : Nat) (v1 : Int32) (v2 : Int32) (h : Hp) : Option (Int32 × Hp) := lt (0 : Int32) fun y1 => gd (hS h v0 = some (.inl 5)) (bd (f_C_feastFrom v0 v1 (1 : Int32) v2 h) fun r3 h2 => lt (0 : Int32) fun y4 => l_C_feastsUntil_14 FU (v0, v1, v2, y1, r3, y4) h2)
set_option maxHeartbeats 4000000 in
set_option maxRecDepth 20000 in
theorem t_C_feastsUntil {G : GG} (v0 : Nat) (v1 : Int32) (v2 : Int32) (h : Hp) : Mt G M_C_feastsUntil 6 [.ref v0, .int v1, .int v2] cI h (f_C_feastsUntil v0 v1 v2 h) := by
  refine Mt.ofF (by decide +kernel) rfl (Rt.i rfl rfl) ?_
  show T G M_C_feastsUntil 6 cI 0 [(0, .ref v0), (1, .int v1), (2, .int v2)] [] h _
  unfold f_C_feastsUntil
  refine q_ic0 (pc := 0) (dq D_C_feastsUntil_0_ok 0 rfl) ?_
  refine r_nmI (fun y1 => ?_)
  refine q_istore_n (pc := 1) (ls' := [(3, .int y1), (0, .ref v0), (1, .int v1), (2, .int v2)]) (dq D_C_feastsUntil_0_ok 1 rfl) rfl rfl rfl ?_
  refine q_aload_n (pc := 2) (dq D_C_feastsUntil_0_ok 2 rfl) rfl 1 rfl ?_
  refine q_iload_n (pc := 3) (dq D_C_feastsUntil_0_ok 3 rfl) rfl 2 rfl ?_
  refine q_ic1 (pc := 4) (dq D_C_feastsUntil_0_ok 4 rfl) ?_
  refine q_iload_n (pc := 5) (dq D_C_feastsUntil_0_ok 5 rfl) rfl 3 rfl ?_
  refine r_invI (Mc := M_C_feastFrom) (pc := 6) (ci := 5) (rest := []) 5 3 [.int v1, .int 1, .int v2] (dq D_C_feastsUntil_0_ok 6 rfl) rfl rfl lc_C_feastFrom lv_C_feastFrom_ ml_C_82 rfl rfl rfl rfl (t_C_feastFrom v0 v1 (1 : Int32) v2 h) (fun r3 h2 => ?_)
  refine q_istore (pc := 9) (ls' := [(4, .int r3), (3, .int y1), (0, .ref v0), (1, .int v1), (2, .int v2)]) (dq D_C_feastsUntil_0_ok 7 rfl) rfl rfl ?_
  refine q_ic0 (pc := 11) (dq D_C_feastsUntil_0_ok 8 rfl) ?_
  refine r_nmI (fun y4 => ?_)
  refine q_istore (pc := 12) (ls' := [(5, .int y4), (4, .int r3), (3, .int y1), (0, .ref v0), (1, .int v1), (2, .int v2)]) (dq D_C_feastsUntil_0_ok 9 rfl) rfl rfl ?_
  exact T.lsub [3, 4, 5, 2, 1, 0] rfl (tl_C_feastsUntil_14 FU (v0, v1, v2, y1, r3, y4) h2)
noncomputable def b_B_often_25 (v0 : Nat) (h : Hp) : Option (Int32 × Hp) := gd (hS h v0 = some (.inl 0)) (bd (f_B_refuse v0 (2 : Int32) h) fun r2 h1 => some (r2, h1))
set_option maxHeartbeats 4000000 in
set_option maxRecDepth 20000 in
theorem tb_B_often_25 {G : GG} (v0 : Nat) (h : Hp) : T G M_B_often 7 cI 25 [(0, .ref v0)] [] h (b_B_often_25 v0 h) := by
  unfold b_B_often_25
  refine q_aload_n (pc := 25) (dq D_B_often_0_ok 13 rfl) rfl 0 rfl ?_
  refine q_ic2 (pc := 26) (dq D_B_often_0_ok 14 rfl) ?_
  refine r_invI (Mc := M_B_refuse) (pc := 27) (ci := 0) (rest := []) 0 1 [.int 2] (dq D_B_often_0_ok 15 rfl) rfl rfl lc_B_refuse lv_B_refuse_ ml_B_87 rfl rfl rfl rfl (t_B_refuse v0 (2 : Int32) h) (fun r2 h1 => ?_)
  exact r_reti (pc := 30) (dq D_B_often_0_ok 16 rfl) rfl
noncomputable def f_B_often (v0 : Nat) (v1 : Int32) (v2 : Int32) (h : Hp) : Option (Int32 × Hp) := gd (hS h v0 = some (.inl 0)) (bd (f_B_hasFeast v0 v1 h) fun r2 h1 => if r2 = 0 then (gd (hS h1 v0 = some (.inl 0)) (bd (f_B_refuse v0 (1 : Int32) h1) fun r10 h9 => some (r10, h9))) else (if v2 < 0 then (b_B_often_25 v0 h1) else (if v2 ≤ 5000 then (gd (hS h1 v0 = some (.inl 0)) (bd (f_B_daysToCome v0 h1) fun r4 h3 => gd (hS h3 r4 = some (.inl 5)) (bd (f_C_feastsUntil r4 v1 v2 h3) fun r6 h5 => gd (hS h5 v0 = some (.inl 0)) (bd (f_B_grant v0 r6 h5) fun r8 h7 => some (r8, h7))))) else (b_B_often_25 v0 h1))))
set_option maxHeartbeats 4000000 in
set_option maxRecDepth 20000 in
theorem t_B_often {G : GG} (v0 : Nat) (v1 : Int32) (v2 : Int32) (h : Hp) : Mt G M_B_often 7 [.ref v0, .int v1, .int v2] cI h (f_B_often v0 v1 v2 h) := by
  refine Mt.ofF (by decide +kernel) rfl (Rt.i rfl rfl) ?_
  show T G M_B_often 7 cI 0 [(0, .ref v0), (1, .int v1), (2, .int v2)] [] h _
  unfold f_B_often
  refine q_aload_n (pc := 0) (dq D_B_often_0_ok 0 rfl) rfl 0 rfl ?_
  refine q_iload_n (pc := 1) (dq D_B_often_0_ok 1 rfl) rfl 1 rfl ?_
  refine r_invI (Mc := M_B_hasFeast) (pc := 2) (ci := 0) (rest := []) 0 1 [.int v1] (dq D_B_often_0_ok 2 rfl) rfl rfl lc_B_hasFeast lv_B_hasFeast_ ml_B_189 rfl rfl rfl rfl (t_B_hasFeast v0 v1 h) (fun r2 h1 => ?_)
  refine p_if_ne (pc := 5) 14 (dq D_B_often_0_ok 3 rfl) rfl ?_ ?_
  · refine q_iload_n (pc := 14) (dq D_B_often_0_ok 8 rfl) rfl 2 rfl ?_
    refine p_if_lt (pc := 15) 25 (dq D_B_often_0_ok 9 rfl) rfl ?_ ?_
    · exact T.lsub [0] rfl (tb_B_often_25 v0 h1)
    · refine q_iload_n (pc := 18) (dq D_B_often_0_ok 10 rfl) rfl 2 rfl ?_
      refine q_sipush (pc := 19) (v := 5000) (dq D_B_often_0_ok 11 rfl) (by decide) ?_
      refine q_ic_le (pc := 22) 31 (dq D_B_often_0_ok 12 rfl) rfl ?_ ?_
      · refine q_aload_n (pc := 31) (dq D_B_often_0_ok 17 rfl) rfl 0 rfl ?_
        refine q_aload_n (pc := 32) (dq D_B_often_0_ok 18 rfl) rfl 0 rfl ?_
        refine r_invA (Mc := M_B_daysToCome) (pc := 33) (ci := 0) (rest := [.ref v0]) 4 0 [] (dq D_B_often_0_ok 19 rfl) rfl rfl lc_B_daysToCome lv_B_daysToCome_ ml_B_192 rfl rfl rfl rfl (t_B_daysToCome v0 h1) (fun r4 h3 => ?_)
        refine q_iload_n (pc := 36) (dq D_B_often_0_ok 20 rfl) rfl 1 rfl ?_
        refine q_iload_n (pc := 37) (dq D_B_often_0_ok 21 rfl) rfl 2 rfl ?_
        refine r_invI (Mc := M_C_feastsUntil) (pc := 38) (ci := 5) (rest := [.ref v0]) 6 2 [.int v1, .int v2] (dq D_B_often_0_ok 22 rfl) rfl rfl lc_C_feastsUntil lv_C_feastsUntil_ ml_B_200 rfl rfl rfl rfl (t_C_feastsUntil r4 v1 v2 h3) (fun r6 h5 => ?_)
        refine r_invI (Mc := M_B_grant) (pc := 41) (ci := 0) (rest := []) 0 1 [.int r6] (dq D_B_often_0_ok 23 rfl) rfl rfl lc_B_grant lv_B_grant_ ml_B_109 rfl rfl rfl rfl (t_B_grant v0 r6 h5) (fun r8 h7 => ?_)
        exact r_reti (pc := 44) (dq D_B_often_0_ok 24 rfl) rfl
      · exact T.lsub [0] rfl (tb_B_often_25 v0 h1)
  · refine q_aload_n (pc := 8) (dq D_B_often_0_ok 4 rfl) rfl 0 rfl ?_
    refine q_ic1 (pc := 9) (dq D_B_often_0_ok 5 rfl) ?_
    refine r_invI (Mc := M_B_refuse) (pc := 10) (ci := 0) (rest := []) 0 1 [.int 1] (dq D_B_often_0_ok 6 rfl) rfl rfl lc_B_refuse lv_B_refuse_ ml_B_87 rfl rfl rfl rfl (t_B_refuse v0 (1 : Int32) h1) (fun r10 h9 => ?_)
    exact r_reti (pc := 13) (dq D_B_often_0_ok 7 rfl) rfl
noncomputable def f_C_meetingFrom (v0 : Nat) (v1 : Int32) (v2 : Int32) (v3 : Int32) (h : Hp) : Option (Int32 × Hp) := gd (hS h v0 = some (.inl 5)) (bd (f_C_firstDay v0 v1 v2 (0 : Int32) v3 (5000 : Int32) h) fun r2 h1 => some (r2, h1))
set_option maxHeartbeats 4000000 in
set_option maxRecDepth 20000 in
theorem t_C_meetingFrom {G : GG} (v0 : Nat) (v1 : Int32) (v2 : Int32) (v3 : Int32) (h : Hp) : Mt G M_C_meetingFrom 5 [.ref v0, .int v1, .int v2, .int v3] cI h (f_C_meetingFrom v0 v1 v2 v3 h) := by
  refine Mt.ofF (by decide +kernel) rfl (Rt.i rfl rfl) ?_
  show T G M_C_meetingFrom 5 cI 0 [(0, .ref v0), (1, .int v1), (2, .int v2), (3, .int v3)] [] h _
  unfold f_C_meetingFrom
  refine q_aload_n (pc := 0) (dq D_C_meetingFrom_0_ok 0 rfl) rfl 0 rfl ?_
  refine q_iload_n (pc := 1) (dq D_C_meetingFrom_0_ok 1 rfl) rfl 1 rfl ?_
  refine q_iload_n (pc := 2) (dq D_C_meetingFrom_0_ok 2 rfl) rfl 2 rfl ?_
  refine q_ic0 (pc := 3) (dq D_C_meetingFrom_0_ok 3 rfl) ?_
  refine q_iload_n (pc := 4) (dq D_C_meetingFrom_0_ok 4 rfl) rfl 3 rfl ?_
  refine q_sipush (pc := 5) (v := 5000) (dq D_C_meetingFrom_0_ok 5 rfl) (by decide) ?_
  refine r_invI (Mc := M_C_firstDay) (pc := 8) (ci := 5) (rest := []) 4 5 [.int v1, .int v2, .int 0, .int v3, .int 5000] (dq D_C_meetingFrom_0_ok 6 rfl) rfl rfl lc_C_firstDay lv_C_firstDay_ ml_C_60 rfl rfl rfl rfl (t_C_firstDay v0 v1 v2 (0 : Int32) v3 (5000 : Int32) h) (fun r2 h1 => ?_)
  exact r_reti (pc := 11) (dq D_C_meetingFrom_0_ok 7 rfl) rfl
noncomputable def b_B_meet_21 (v0 : Nat) (h : Hp) : Option (Int32 × Hp) := gd (hS h v0 = some (.inl 0)) (bd (f_B_refuse v0 (1 : Int32) h) fun r2 h1 => some (r2, h1))
set_option maxHeartbeats 4000000 in
set_option maxRecDepth 20000 in
theorem tb_B_meet_21 {G : GG} (v0 : Nat) (h : Hp) : T G M_B_meet 6 cI 21 [(0, .ref v0)] [] h (b_B_meet_21 v0 h) := by
  unfold b_B_meet_21
  refine q_aload_n (pc := 21) (dq D_B_meet_0_ok 11 rfl) rfl 0 rfl ?_
  refine q_ic1 (pc := 22) (dq D_B_meet_0_ok 12 rfl) ?_
  refine r_invI (Mc := M_B_refuse) (pc := 23) (ci := 0) (rest := []) 0 1 [.int 1] (dq D_B_meet_0_ok 13 rfl) rfl rfl lc_B_refuse lv_B_refuse_ ml_B_87 rfl rfl rfl rfl (t_B_refuse v0 (1 : Int32) h) (fun r2 h1 => ?_)
  exact r_reti (pc := 26) (dq D_B_meet_0_ok 14 rfl) rfl
noncomputable def f_B_meet (v0 : Nat) (v1 : Int32) (v2 : Int32) (h : Hp) : Option (Int32 × Hp) := gd (hS h v0 = some (.inl 0)) (bd (f_B_hasFeast v0 v1 h) fun r2 h1 => if r2 = 0 then (b_B_meet_21 v0 h1) else (gd (hS h1 v0 = some (.inl 0)) (bd (f_B_hasFeast v0 v2 h1) fun r4 h3 => if r4 = 0 then (b_B_meet_21 v0 h3) else (if v1 = v2 then (b_B_meet_21 v0 h3) else (gd (hS h3 v0 = some (.inl 0)) (bd (f_B_daysToCome v0 h3) fun r6 h5 => gd (hS h5 r6 = some (.inl 5)) (bd (f_C_meetingFrom r6 v1 v2 (1 : Int32) h5) fun r8 h7 => gd (hS h7 v0 = some (.inl 0)) (bd (f_B_grant v0 r8 h7) fun r10 h9 => some (r10, h9)))))))))
set_option maxHeartbeats 4000000 in
set_option maxRecDepth 20000 in
theorem t_B_meet {G : GG} (v0 : Nat) (v1 : Int32) (v2 : Int32) (h : Hp) : Mt G M_B_meet 6 [.ref v0, .int v1, .int v2] cI h (f_B_meet v0 v1 v2 h) := by
  refine Mt.ofF (by decide +kernel) rfl (Rt.i rfl rfl) ?_
  show T G M_B_meet 6 cI 0 [(0, .ref v0), (1, .int v1), (2, .int v2)] [] h _
  unfold f_B_meet
  refine q_aload_n (pc := 0) (dq D_B_meet_0_ok 0 rfl) rfl 0 rfl ?_
  refine q_iload_n (pc := 1) (dq D_B_meet_0_ok 1 rfl) rfl 1 rfl ?_
  refine r_invI (Mc := M_B_hasFeast) (pc := 2) (ci := 0) (rest := []) 0 1 [.int v1] (dq D_B_meet_0_ok 2 rfl) rfl rfl lc_B_hasFeast lv_B_hasFeast_ ml_B_189 rfl rfl rfl rfl (t_B_hasFeast v0 v1 h) (fun r2 h1 => ?_)
  refine p_if_eq (pc := 5) 21 (dq D_B_meet_0_ok 3 rfl) rfl ?_ ?_
  · exact T.lsub [0] rfl (tb_B_meet_21 v0 h1)
  · refine q_aload_n (pc := 8) (dq D_B_meet_0_ok 4 rfl) rfl 0 rfl ?_
    refine q_iload_n (pc := 9) (dq D_B_meet_0_ok 5 rfl) rfl 2 rfl ?_
    refine r_invI (Mc := M_B_hasFeast) (pc := 10) (ci := 0) (rest := []) 0 1 [.int v2] (dq D_B_meet_0_ok 6 rfl) rfl rfl lc_B_hasFeast lv_B_hasFeast_ ml_B_189 rfl rfl rfl rfl (t_B_hasFeast v0 v2 h1) (fun r4 h3 => ?_)
    refine p_if_eq (pc := 13) 21 (dq D_B_meet_0_ok 7 rfl) rfl ?_ ?_
    · exact T.lsub [0] rfl (tb_B_meet_21 v0 h3)
    · refine q_iload_n (pc := 16) (dq D_B_meet_0_ok 8 rfl) rfl 1 rfl ?_
      refine q_iload_n (pc := 17) (dq D_B_meet_0_ok 9 rfl) rfl 2 rfl ?_
      refine q_ic_ne (pc := 18) 27 (dq D_B_meet_0_ok 10 rfl) rfl ?_ ?_
      · refine q_aload_n (pc := 27) (dq D_B_meet_0_ok 15 rfl) rfl 0 rfl ?_
        refine q_aload_n (pc := 28) (dq D_B_meet_0_ok 16 rfl) rfl 0 rfl ?_
        refine r_invA (Mc := M_B_daysToCome) (pc := 29) (ci := 0) (rest := [.ref v0]) 4 0 [] (dq D_B_meet_0_ok 17 rfl) rfl rfl lc_B_daysToCome lv_B_daysToCome_ ml_B_192 rfl rfl rfl rfl (t_B_daysToCome v0 h3) (fun r6 h5 => ?_)
        refine q_iload_n (pc := 32) (dq D_B_meet_0_ok 18 rfl) rfl 1 rfl ?_
        refine q_iload_n (pc := 33) (dq D_B_meet_0_ok 19 rfl) rfl 2 rfl ?_
        refine q_ic1 (pc := 34) (dq D_B_meet_0_ok 20 rfl) ?_
        refine r_invI (Mc := M_C_meetingFrom) (pc := 35) (ci := 5) (rest := [.ref v0]) 5 3 [.int v1, .int v2, .int 1] (dq D_B_meet_0_ok 21 rfl) rfl rfl lc_C_meetingFrom lv_C_meetingFrom_ ml_B_204 rfl rfl rfl rfl (t_C_meetingFrom r6 v1 v2 (1 : Int32) h5) (fun r8 h7 => ?_)
        refine r_invI (Mc := M_B_grant) (pc := 38) (ci := 0) (rest := []) 0 1 [.int r8] (dq D_B_meet_0_ok 22 rfl) rfl rfl lc_B_grant lv_B_grant_ ml_B_109 rfl rfl rfl rfl (t_B_grant v0 r8 h7) (fun r10 h9 => ?_)
        exact r_reti (pc := 41) (dq D_B_meet_0_ok 23 rfl) rfl
      · exact T.lsub [0] rfl (tb_B_meet_21 v0 h3)
noncomputable def b_C_soonestFeast_43 (k9 : (Nat × Int32 × Int32 × Int32) → Hp → Option (Int32 × Hp)) (v0 : Nat) (v1 : Int32) (v2 : Int32) (v3 : Int32) (h : Hp) : Option (Int32 × Hp) := k9 (v0, v1, v2, v3 + 1) h
set_option maxHeartbeats 4000000 in
set_option maxRecDepth 20000 in
theorem tb_C_soonestFeast_43 {G : GG} {k9 : (Nat × Int32 × Int32 × Int32) → Hp → Option (Int32 × Hp)} (hk9 : ∀ s h, T G M_C_soonestFeast 6 cI 9 [(0, .ref s.1), (1, .int s.2.1), (2, .int s.2.2.1), (3, .int s.2.2.2)] [] h (k9 s h)) (v0 : Nat) (v1 : Int32) (v2 : Int32) (v3 : Int32) (h : Hp) : T G M_C_soonestFeast 6 cI 43 [(0, .ref v0), (1, .int v1), (2, .int v2), (3, .int v3)] [] h (b_C_soonestFeast_43 k9 v0 v1 v2 v3 h) := by
  unfold b_C_soonestFeast_43
  refine q_iinc (pc := 43) (v := (1)) (ls' := [(3, .int (v3 + 1)), (0, .ref v0), (1, .int v1), (2, .int v2)]) (dq D_C_soonestFeast_0_ok 26 rfl) 3 rfl (by decide) rfl rfl ?_
  refine q_goto (pc := 46) 9 (dq D_C_soonestFeast_0_ok 27 rfl) rfl ?_
  exact T.lsub [1, 2, 3, 0] rfl (hk9 (v0, v1, v2, v3 + 1) h)
noncomputable def b_C_soonestFeast_9 (k9 : (Nat × Int32 × Int32 × Int32) → Hp → Option (Int32 × Hp)) (v0 : Nat) (v1 : Int32) (v2 : Int32) (v3 : Int32) (h : Hp) : Option (Int32 × Hp) := gd (hS h v0 = some (.inl 5)) (bR (hR h v0 5) fun x1 => gd (hS h x1 = some (.inl 2)) (lt (hI h x1 4) fun x2 => if x2 ≤ v3 then (some (v1, h)) else (gd (hS h v0 = some (.inl 5)) (bd (f_C_feastFrom v0 v3 (1 : Int32) (v2 - 1) h) fun r4 h3 => if r4 = ((-2)) then (b_C_soonestFeast_43 k9 v0 v1 v2 v3 h3) else (b_C_soonestFeast_43 k9 v0 v3 r4 v3 h3)))))
set_option maxHeartbeats 4000000 in
set_option maxRecDepth 20000 in
theorem tb_C_soonestFeast_9 {G : GG} {k9 : (Nat × Int32 × Int32 × Int32) → Hp → Option (Int32 × Hp)} (hk9 : ∀ s h, T G M_C_soonestFeast 6 cI 9 [(0, .ref s.1), (1, .int s.2.1), (2, .int s.2.2.1), (3, .int s.2.2.2)] [] h (k9 s h)) (v0 : Nat) (v1 : Int32) (v2 : Int32) (v3 : Int32) (h : Hp) : T G M_C_soonestFeast 6 cI 9 [(0, .ref v0), (1, .int v1), (2, .int v2), (3, .int v3)] [] h (b_C_soonestFeast_9 k9 v0 v1 v2 v3 h) := by
  unfold b_C_soonestFeast_9
  refine q_iload_n (pc := 9) (dq D_C_soonestFeast_0_ok 6 rfl) rfl 3 rfl ?_
  refine q_aload_n (pc := 10) (dq D_C_soonestFeast_0_ok 7 rfl) rfl 0 rfl ?_
  refine q_getR (pc := 11) (dq D_C_soonestFeast_0_ok 8 rfl) fa_C_45 rfl (fun x1 => ?_)
  refine r_getI (pc := 14) (dq D_C_soonestFeast_0_ok 9 rfl) fa_C_86 rfl (fun x2 => ?_)
  refine q_ic_ge (pc := 17) 49 (dq D_C_soonestFeast_0_ok 10 rfl) rfl ?_ ?_
  · refine q_iload_n (pc := 49) (dq D_C_soonestFeast_0_ok 28 rfl) rfl 1 rfl ?_
    exact r_reti (pc := 50) (dq D_C_soonestFeast_0_ok 29 rfl) rfl
  · refine q_aload_n (pc := 20) (dq D_C_soonestFeast_0_ok 11 rfl) rfl 0 rfl ?_
    refine q_iload_n (pc := 21) (dq D_C_soonestFeast_0_ok 12 rfl) rfl 3 rfl ?_
    refine q_ic1 (pc := 22) (dq D_C_soonestFeast_0_ok 13 rfl) ?_
    refine q_iload_n (pc := 23) (dq D_C_soonestFeast_0_ok 14 rfl) rfl 2 rfl ?_
    refine q_ic1 (pc := 24) (dq D_C_soonestFeast_0_ok 15 rfl) ?_
    refine q_isub (pc := 25) (dq D_C_soonestFeast_0_ok 16 rfl) ?_
    refine r_invI (Mc := M_C_feastFrom) (pc := 26) (ci := 5) (rest := []) 5 3 [.int v3, .int 1, .int (v2 - 1)] (dq D_C_soonestFeast_0_ok 17 rfl) rfl rfl lc_C_feastFrom lv_C_feastFrom_ ml_C_82 rfl rfl rfl rfl (t_C_feastFrom v0 v3 (1 : Int32) (v2 - 1) h) (fun r4 h3 => ?_)
    refine q_istore (pc := 29) (ls' := [(4, .int r4), (0, .ref v0), (1, .int v1), (2, .int v2), (3, .int v3)]) (dq D_C_soonestFeast_0_ok 18 rfl) rfl rfl ?_
    refine q_iload (pc := 31) (dq D_C_soonestFeast_0_ok 19 rfl) 0 rfl ?_
    refine q_bipush (pc := 33) (v := (-2)) (dq D_C_soonestFeast_0_ok 20 rfl) (by decide) ?_
    refine q_ic_eq (pc := 35) 43 (dq D_C_soonestFeast_0_ok 21 rfl) rfl ?_ ?_
    · exact T.lsub [1, 2, 3, 4] rfl (tb_C_soonestFeast_43 hk9 v0 v1 v2 v3 h3)
    · refine q_iload_n (pc := 38) (dq D_C_soonestFeast_0_ok 22 rfl) rfl 4 rfl ?_
      refine q_istore_n (pc := 39) (ls' := [(1, .int v3), (4, .int r4), (0, .ref v0), (2, .int v2), (3, .int v3)]) (dq D_C_soonestFeast_0_ok 23 rfl) rfl rfl rfl ?_
      refine q_iload (pc := 40) (dq D_C_soonestFeast_0_ok 24 rfl) 1 rfl ?_
      refine q_istore_n (pc := 42) (ls' := [(2, .int r4), (1, .int v3), (4, .int r4), (0, .ref v0), (3, .int v3)]) (dq D_C_soonestFeast_0_ok 25 rfl) rfl rfl rfl ?_
      exact T.lsub [3, 1, 0, 4] rfl (tb_C_soonestFeast_43 hk9 v0 v3 r4 v3 h3)
noncomputable def l_C_soonestFeast_9 : Nat → (Nat × Int32 × Int32 × Int32) → Hp → Option (Int32 × Hp) := lp (fun k9 s h => b_C_soonestFeast_9 k9 s.1 s.2.1 s.2.2.1 s.2.2.2 h)
set_option maxHeartbeats 4000000 in
set_option maxRecDepth 20000 in
theorem tl_C_soonestFeast_9 {G : GG} (n : Nat) (s : Nat × Int32 × Int32 × Int32) (h : Hp) : T G M_C_soonestFeast 6 cI 9 [(0, .ref s.1), (1, .int s.2.1), (2, .int s.2.2.1), (3, .int s.2.2.2)] [] h (l_C_soonestFeast_9 n s h) :=
  T.loop (lsOf := fun s => [(0, .ref s.1), (1, .int s.2.1), (2, .int s.2.2.1), (3, .int s.2.2.2)]) (fun k9 hk9 s h => tb_C_soonestFeast_9 hk9 s.1 s.2.1 s.2.2.1 s.2.2.2 h) n s h
noncomputable def f_C_soonestFeast (v0 : Nat) (h : Hp) : Option (Int32 × Hp) := lt ((-2) : Int32) fun y1 => lt (5001 : Int32) fun y2 => lt (0 : Int32) fun y3 => l_C_soonestFeast_9 FU (v0, y1, y2, y3) h
set_option maxHeartbeats 4000000 in
set_option maxRecDepth 20000 in
theorem t_C_soonestFeast {G : GG} (v0 : Nat) (h : Hp) : Mt G M_C_soonestFeast 6 [.ref v0] cI h (f_C_soonestFeast v0 h) := by
  refine Mt.ofF (by decide +kernel) rfl (Rt.i rfl rfl) ?_
  show T G M_C_soonestFeast 6 cI 0 [(0, .ref v0)] [] h _
  unfold f_C_soonestFeast
  refine q_bipush (pc := 0) (v := (-2)) (dq D_C_soonestFeast_0_ok 0 rfl) (by decide) ?_
  refine r_nmI (fun y1 => ?_)
  refine q_istore_n (pc := 2) (ls' := [(1, .int y1), (0, .ref v0)]) (dq D_C_soonestFeast_0_ok 1 rfl) rfl rfl rfl ?_
  refine q_sipush (pc := 3) (v := 5001) (dq D_C_soonestFeast_0_ok 2 rfl) (by decide) ?_
  refine r_nmI (fun y2 => ?_)
  refine q_istore_n (pc := 6) (ls' := [(2, .int y2), (1, .int y1), (0, .ref v0)]) (dq D_C_soonestFeast_0_ok 3 rfl) rfl rfl rfl ?_
  refine q_ic0 (pc := 7) (dq D_C_soonestFeast_0_ok 4 rfl) ?_
  refine r_nmI (fun y3 => ?_)
  refine q_istore_n (pc := 8) (ls' := [(3, .int y3), (2, .int y2), (1, .int y1), (0, .ref v0)]) (dq D_C_soonestFeast_0_ok 5 rfl) rfl rfl rfl ?_
  exact T.lsub [3, 2, 1, 0] rfl (tl_C_soonestFeast_9 FU (v0, y1, y2, y3) h)
noncomputable def f_B_soonest (v0 : Nat) (h : Hp) : Option (Int32 × Hp) := gd (hS h v0 = some (.inl 0)) (bd (f_B_hasOrrery v0 h) fun r2 h1 => if r2 = 0 then (gd (hS h1 v0 = some (.inl 0)) (bd (f_B_refuse v0 (1 : Int32) h1) fun r10 h9 => some (r10, h9))) else (gd (hS h1 v0 = some (.inl 0)) (bd (f_B_daysToCome v0 h1) fun r4 h3 => gd (hS h3 r4 = some (.inl 5)) (bd (f_C_soonestFeast r4 h3) fun r6 h5 => gd (hS h5 v0 = some (.inl 0)) (bd (f_B_grant v0 r6 h5) fun r8 h7 => some (r8, h7))))))
set_option maxHeartbeats 4000000 in
set_option maxRecDepth 20000 in
theorem t_B_soonest {G : GG} (v0 : Nat) (h : Hp) : Mt G M_B_soonest 7 [.ref v0] cI h (f_B_soonest v0 h) := by
  refine Mt.ofF (by decide +kernel) rfl (Rt.i rfl rfl) ?_
  show T G M_B_soonest 7 cI 0 [(0, .ref v0)] [] h _
  unfold f_B_soonest
  refine q_aload_n (pc := 0) (dq D_B_soonest_0_ok 0 rfl) rfl 0 rfl ?_
  refine r_invI (Mc := M_B_hasOrrery) (pc := 1) (ci := 0) (rest := []) 0 0 [] (dq D_B_soonest_0_ok 1 rfl) rfl rfl lc_B_hasOrrery lv_B_hasOrrery_ ml_B_149 rfl rfl rfl rfl (t_B_hasOrrery v0 h) (fun r2 h1 => ?_)
  refine p_if_ne (pc := 4) 13 (dq D_B_soonest_0_ok 2 rfl) rfl ?_ ?_
  · refine q_aload_n (pc := 13) (dq D_B_soonest_0_ok 7 rfl) rfl 0 rfl ?_
    refine q_aload_n (pc := 14) (dq D_B_soonest_0_ok 8 rfl) rfl 0 rfl ?_
    refine r_invA (Mc := M_B_daysToCome) (pc := 15) (ci := 0) (rest := [.ref v0]) 4 0 [] (dq D_B_soonest_0_ok 9 rfl) rfl rfl lc_B_daysToCome lv_B_daysToCome_ ml_B_192 rfl rfl rfl rfl (t_B_daysToCome v0 h1) (fun r4 h3 => ?_)
    refine r_invI (Mc := M_C_soonestFeast) (pc := 18) (ci := 5) (rest := [.ref v0]) 6 0 [] (dq D_B_soonest_0_ok 10 rfl) rfl rfl lc_C_soonestFeast lv_C_soonestFeast_ ml_B_207 rfl rfl rfl rfl (t_C_soonestFeast r4 h3) (fun r6 h5 => ?_)
    refine r_invI (Mc := M_B_grant) (pc := 21) (ci := 0) (rest := []) 0 1 [.int r6] (dq D_B_soonest_0_ok 11 rfl) rfl rfl lc_B_grant lv_B_grant_ ml_B_109 rfl rfl rfl rfl (t_B_grant v0 r6 h5) (fun r8 h7 => ?_)
    exact r_reti (pc := 24) (dq D_B_soonest_0_ok 12 rfl) rfl
  · refine q_aload_n (pc := 7) (dq D_B_soonest_0_ok 3 rfl) rfl 0 rfl ?_
    refine q_ic1 (pc := 8) (dq D_B_soonest_0_ok 4 rfl) ?_
    refine r_invI (Mc := M_B_refuse) (pc := 9) (ci := 0) (rest := []) 0 1 [.int 1] (dq D_B_soonest_0_ok 5 rfl) rfl rfl lc_B_refuse lv_B_refuse_ ml_B_87 rfl rfl rfl rfl (t_B_refuse v0 (1 : Int32) h1) (fun r10 h9 => ?_)
    exact r_reti (pc := 12) (dq D_B_soonest_0_ok 6 rfl) rfl
noncomputable def b_C_widestGap_59 (k16 : (Nat × Int32 × Int32 × Int32 × Int32) → Hp → Option (Int32 × Hp)) (v0 : Nat) (v1 : Int32) (v2 : Int32) (v4 : Int32) (v5 : Int32) (h : Hp) : Option (Int32 × Hp) := k16 (v0, v1, v2, v5, v4 + 1) h
set_option maxHeartbeats 4000000 in
set_option maxRecDepth 20000 in
theorem tb_C_widestGap_59 {G : GG} {k16 : (Nat × Int32 × Int32 × Int32 × Int32) → Hp → Option (Int32 × Hp)} (hk16 : ∀ s h, T G M_C_widestGap 6 cI 16 [(0, .ref s.1), (1, .int s.2.1), (2, .int s.2.2.1), (3, .int s.2.2.2.1), (4, .int s.2.2.2.2)] [] h (k16 s h)) (v0 : Nat) (v1 : Int32) (v2 : Int32) (v4 : Int32) (v5 : Int32) (h : Hp) : T G M_C_widestGap 6 cI 59 [(0, .ref v0), (1, .int v1), (2, .int v2), (4, .int v4), (5, .int v5)] [] h (b_C_widestGap_59 k16 v0 v1 v2 v4 v5 h) := by
  unfold b_C_widestGap_59
  refine q_iload (pc := 59) (dq D_C_widestGap_0_ok 33 rfl) 4 rfl ?_
  refine q_istore_n (pc := 61) (ls' := [(3, .int v5), (0, .ref v0), (1, .int v1), (2, .int v2), (4, .int v4), (5, .int v5)]) (dq D_C_widestGap_0_ok 34 rfl) rfl rfl rfl ?_
  refine q_iinc (pc := 62) (v := (1)) (ls' := [(4, .int (v4 + 1)), (3, .int v5), (0, .ref v0), (1, .int v1), (2, .int v2), (5, .int v5)]) (dq D_C_widestGap_0_ok 35 rfl) 4 rfl (by decide) rfl rfl ?_
  refine q_goto (pc := 65) 16 (dq D_C_widestGap_0_ok 36 rfl) rfl ?_
  exact T.lsub [2, 3, 4, 1, 0] rfl (hk16 (v0, v1, v2, v5, v4 + 1) h)
noncomputable def b_C_widestGap_16 (k16 : (Nat × Int32 × Int32 × Int32 × Int32) → Hp → Option (Int32 × Hp)) (v0 : Nat) (v1 : Int32) (v2 : Int32) (v3 : Int32) (v4 : Int32) (h : Hp) : Option (Int32 × Hp) := if 5000 ≤ v4 then (some (v2, h)) else (if v3 = ((-2)) then (some (v2, h)) else (gd (hS h v0 = some (.inl 5)) (bd (f_C_feastFrom v0 v1 (v3 + 1) (5000 : Int32) h) fun r2 h1 => if r2 = ((-2)) then (b_C_widestGap_59 k16 v0 v1 v2 v4 r2 h1) else (bd (f_Math_max v2 (r2 - v3) h1) fun r4 h3 => b_C_widestGap_59 k16 v0 v1 r4 v4 r2 h3))))
set_option maxHeartbeats 4000000 in
set_option maxRecDepth 20000 in
theorem tb_C_widestGap_16 {G : GG} {k16 : (Nat × Int32 × Int32 × Int32 × Int32) → Hp → Option (Int32 × Hp)} (hk16 : ∀ s h, T G M_C_widestGap 6 cI 16 [(0, .ref s.1), (1, .int s.2.1), (2, .int s.2.2.1), (3, .int s.2.2.2.1), (4, .int s.2.2.2.2)] [] h (k16 s h)) (v0 : Nat) (v1 : Int32) (v2 : Int32) (v3 : Int32) (v4 : Int32) (h : Hp) : T G M_C_widestGap 6 cI 16 [(0, .ref v0), (1, .int v1), (2, .int v2), (3, .int v3), (4, .int v4)] [] h (b_C_widestGap_16 k16 v0 v1 v2 v3 v4 h) := by
  unfold b_C_widestGap_16
  refine q_iload (pc := 16) (dq D_C_widestGap_0_ok 10 rfl) 4 rfl ?_
  refine q_sipush (pc := 18) (v := 5000) (dq D_C_widestGap_0_ok 11 rfl) (by decide) ?_
  refine q_ic_ge (pc := 21) 68 (dq D_C_widestGap_0_ok 12 rfl) rfl ?_ ?_
  · refine q_iload_n (pc := 68) (dq D_C_widestGap_0_ok 37 rfl) rfl 2 rfl ?_
    exact r_reti (pc := 69) (dq D_C_widestGap_0_ok 38 rfl) rfl
  · refine q_iload_n (pc := 24) (dq D_C_widestGap_0_ok 13 rfl) rfl 3 rfl ?_
    refine q_bipush (pc := 25) (v := (-2)) (dq D_C_widestGap_0_ok 14 rfl) (by decide) ?_
    refine q_ic_eq (pc := 27) 68 (dq D_C_widestGap_0_ok 15 rfl) rfl ?_ ?_
    · refine q_iload_n (pc := 68) (dq D_C_widestGap_0_ok 37 rfl) rfl 2 rfl ?_
      exact r_reti (pc := 69) (dq D_C_widestGap_0_ok 38 rfl) rfl
    · refine q_aload_n (pc := 30) (dq D_C_widestGap_0_ok 16 rfl) rfl 0 rfl ?_
      refine q_iload_n (pc := 31) (dq D_C_widestGap_0_ok 17 rfl) rfl 1 rfl ?_
      refine q_iload_n (pc := 32) (dq D_C_widestGap_0_ok 18 rfl) rfl 3 rfl ?_
      refine q_ic1 (pc := 33) (dq D_C_widestGap_0_ok 19 rfl) ?_
      refine q_iadd (pc := 34) (dq D_C_widestGap_0_ok 20 rfl) ?_
      refine q_sipush (pc := 35) (v := 5000) (dq D_C_widestGap_0_ok 21 rfl) (by decide) ?_
      refine r_invI (Mc := M_C_feastFrom) (pc := 38) (ci := 5) (rest := []) 5 3 [.int v1, .int (v3 + 1), .int 5000] (dq D_C_widestGap_0_ok 22 rfl) rfl rfl lc_C_feastFrom lv_C_feastFrom_ ml_C_82 rfl rfl rfl rfl (t_C_feastFrom v0 v1 (v3 + 1) (5000 : Int32) h) (fun r2 h1 => ?_)
      refine q_istore (pc := 41) (ls' := [(5, .int r2), (0, .ref v0), (1, .int v1), (2, .int v2), (3, .int v3), (4, .int v4)]) (dq D_C_widestGap_0_ok 23 rfl) rfl rfl ?_
      refine q_iload (pc := 43) (dq D_C_widestGap_0_ok 24 rfl) 0 rfl ?_
      refine q_bipush (pc := 45) (v := (-2)) (dq D_C_widestGap_0_ok 25 rfl) (by decide) ?_
      refine q_ic_eq (pc := 47) 59 (dq D_C_widestGap_0_ok 26 rfl) rfl ?_ ?_
      · exact T.lsub [1, 2, 3, 5, 0] rfl (tb_C_widestGap_59 hk16 v0 v1 v2 v4 r2 h1)
      · refine q_iload_n (pc := 50) (dq D_C_widestGap_0_ok 27 rfl) rfl 3 rfl ?_
        refine q_iload (pc := 51) (dq D_C_widestGap_0_ok 28 rfl) 0 rfl ?_
        refine q_iload_n (pc := 53) (dq D_C_widestGap_0_ok 29 rfl) rfl 4 rfl ?_
        refine q_isub (pc := 54) (dq D_C_widestGap_0_ok 30 rfl) ?_
        refine r_insI (Mc := M_Math_max) (pc := 55) (rest := []) 0 2 [.int v2, .int (r2 - v3)] (dq D_C_widestGap_0_ok 31 rfl) lc_Math_max ls_Math_max ml_C_68 rfl rfl rfl rfl (t_Math_max v2 (r2 - v3) h1) (fun r4 h3 => ?_)
        refine q_istore_n (pc := 58) (ls' := [(2, .int r4), (5, .int r2), (0, .ref v0), (1, .int v1), (3, .int v3), (4, .int v4)]) (dq D_C_widestGap_0_ok 32 rfl) rfl rfl rfl ?_
        exact T.lsub [2, 3, 0, 5, 1] rfl (tb_C_widestGap_59 hk16 v0 v1 r4 v4 r2 h3)
noncomputable def l_C_widestGap_16 : Nat → (Nat × Int32 × Int32 × Int32 × Int32) → Hp → Option (Int32 × Hp) := lp (fun k16 s h => b_C_widestGap_16 k16 s.1 s.2.1 s.2.2.1 s.2.2.2.1 s.2.2.2.2 h)
set_option maxHeartbeats 4000000 in
set_option maxRecDepth 20000 in
theorem tl_C_widestGap_16 {G : GG} (n : Nat) (s : Nat × Int32 × Int32 × Int32 × Int32) (h : Hp) : T G M_C_widestGap 6 cI 16 [(0, .ref s.1), (1, .int s.2.1), (2, .int s.2.2.1), (3, .int s.2.2.2.1), (4, .int s.2.2.2.2)] [] h (l_C_widestGap_16 n s h) :=
  T.loop (lsOf := fun s => [(0, .ref s.1), (1, .int s.2.1), (2, .int s.2.2.1), (3, .int s.2.2.2.1), (4, .int s.2.2.2.2)]) (fun k16 hk16 s h => tb_C_widestGap_16 hk16 s.1 s.2.1 s.2.2.1 s.2.2.2.1 s.2.2.2.2 h) n s h
noncomputable def f_C_widestGap (v0 : Nat) (v1 : Int32) (h : Hp) : Option (Int32 × Hp) := lt ((-2) : Int32) fun y1 => gd (hS h v0 = some (.inl 5)) (bd (f_C_feastFrom v0 v1 (1 : Int32) (5000 : Int32) h) fun r3 h2 => lt (0 : Int32) fun y4 => l_C_widestGap_16 FU (v0, v1, y1, r3, y4) h2)
set_option maxHeartbeats 4000000 in
set_option maxRecDepth 20000 in
theorem t_C_widestGap {G : GG} (v0 : Nat) (v1 : Int32) (h : Hp) : Mt G M_C_widestGap 6 [.ref v0, .int v1] cI h (f_C_widestGap v0 v1 h) := by
  refine Mt.ofF (by decide +kernel) rfl (Rt.i rfl rfl) ?_
  show T G M_C_widestGap 6 cI 0 [(0, .ref v0), (1, .int v1)] [] h _
  unfold f_C_widestGap
  refine q_bipush (pc := 0) (v := (-2)) (dq D_C_widestGap_0_ok 0 rfl) (by decide) ?_
  refine r_nmI (fun y1 => ?_)
  refine q_istore_n (pc := 2) (ls' := [(2, .int y1), (0, .ref v0), (1, .int v1)]) (dq D_C_widestGap_0_ok 1 rfl) rfl rfl rfl ?_
  refine q_aload_n (pc := 3) (dq D_C_widestGap_0_ok 2 rfl) rfl 1 rfl ?_
  refine q_iload_n (pc := 4) (dq D_C_widestGap_0_ok 3 rfl) rfl 2 rfl ?_
  refine q_ic1 (pc := 5) (dq D_C_widestGap_0_ok 4 rfl) ?_
  refine q_sipush (pc := 6) (v := 5000) (dq D_C_widestGap_0_ok 5 rfl) (by decide) ?_
  refine r_invI (Mc := M_C_feastFrom) (pc := 9) (ci := 5) (rest := []) 5 3 [.int v1, .int 1, .int 5000] (dq D_C_widestGap_0_ok 6 rfl) rfl rfl lc_C_feastFrom lv_C_feastFrom_ ml_C_82 rfl rfl rfl rfl (t_C_feastFrom v0 v1 (1 : Int32) (5000 : Int32) h) (fun r3 h2 => ?_)
  refine q_istore_n (pc := 12) (ls' := [(3, .int r3), (2, .int y1), (0, .ref v0), (1, .int v1)]) (dq D_C_widestGap_0_ok 7 rfl) rfl rfl rfl ?_
  refine q_ic0 (pc := 13) (dq D_C_widestGap_0_ok 8 rfl) ?_
  refine r_nmI (fun y4 => ?_)
  refine q_istore (pc := 14) (ls' := [(4, .int y4), (3, .int r3), (2, .int y1), (0, .ref v0), (1, .int v1)]) (dq D_C_widestGap_0_ok 9 rfl) rfl rfl ?_
  exact T.lsub [3, 4, 2, 1, 0] rfl (tl_C_widestGap_16 FU (v0, v1, y1, r3, y4) h2)
noncomputable def f_B_longestGap (v0 : Nat) (v1 : Int32) (h : Hp) : Option (Int32 × Hp) := gd (hS h v0 = some (.inl 0)) (bd (f_B_hasFeast v0 v1 h) fun r2 h1 => if r2 = 0 then (gd (hS h1 v0 = some (.inl 0)) (bd (f_B_refuse v0 (1 : Int32) h1) fun r10 h9 => some (r10, h9))) else (gd (hS h1 v0 = some (.inl 0)) (bd (f_B_daysToCome v0 h1) fun r4 h3 => gd (hS h3 r4 = some (.inl 5)) (bd (f_C_widestGap r4 v1 h3) fun r6 h5 => gd (hS h5 v0 = some (.inl 0)) (bd (f_B_grant v0 r6 h5) fun r8 h7 => some (r8, h7))))))
set_option maxHeartbeats 4000000 in
set_option maxRecDepth 20000 in
theorem t_B_longestGap {G : GG} (v0 : Nat) (v1 : Int32) (h : Hp) : Mt G M_B_longestGap 7 [.ref v0, .int v1] cI h (f_B_longestGap v0 v1 h) := by
  refine Mt.ofF (by decide +kernel) rfl (Rt.i rfl rfl) ?_
  show T G M_B_longestGap 7 cI 0 [(0, .ref v0), (1, .int v1)] [] h _
  unfold f_B_longestGap
  refine q_aload_n (pc := 0) (dq D_B_longestGap_0_ok 0 rfl) rfl 0 rfl ?_
  refine q_iload_n (pc := 1) (dq D_B_longestGap_0_ok 1 rfl) rfl 1 rfl ?_
  refine r_invI (Mc := M_B_hasFeast) (pc := 2) (ci := 0) (rest := []) 0 1 [.int v1] (dq D_B_longestGap_0_ok 2 rfl) rfl rfl lc_B_hasFeast lv_B_hasFeast_ ml_B_189 rfl rfl rfl rfl (t_B_hasFeast v0 v1 h) (fun r2 h1 => ?_)
  refine p_if_ne (pc := 5) 14 (dq D_B_longestGap_0_ok 3 rfl) rfl ?_ ?_
  · refine q_aload_n (pc := 14) (dq D_B_longestGap_0_ok 8 rfl) rfl 0 rfl ?_
    refine q_aload_n (pc := 15) (dq D_B_longestGap_0_ok 9 rfl) rfl 0 rfl ?_
    refine r_invA (Mc := M_B_daysToCome) (pc := 16) (ci := 0) (rest := [.ref v0]) 4 0 [] (dq D_B_longestGap_0_ok 10 rfl) rfl rfl lc_B_daysToCome lv_B_daysToCome_ ml_B_192 rfl rfl rfl rfl (t_B_daysToCome v0 h1) (fun r4 h3 => ?_)
    refine q_iload_n (pc := 19) (dq D_B_longestGap_0_ok 11 rfl) rfl 1 rfl ?_
    refine r_invI (Mc := M_C_widestGap) (pc := 20) (ci := 5) (rest := [.ref v0]) 6 1 [.int v1] (dq D_B_longestGap_0_ok 12 rfl) rfl rfl lc_C_widestGap lv_C_widestGap_ ml_B_210 rfl rfl rfl rfl (t_C_widestGap r4 v1 h3) (fun r6 h5 => ?_)
    refine r_invI (Mc := M_B_grant) (pc := 23) (ci := 0) (rest := []) 0 1 [.int r6] (dq D_B_longestGap_0_ok 13 rfl) rfl rfl lc_B_grant lv_B_grant_ ml_B_109 rfl rfl rfl rfl (t_B_grant v0 r6 h5) (fun r8 h7 => ?_)
    exact r_reti (pc := 26) (dq D_B_longestGap_0_ok 14 rfl) rfl
  · refine q_aload_n (pc := 8) (dq D_B_longestGap_0_ok 4 rfl) rfl 0 rfl ?_
    refine q_ic1 (pc := 9) (dq D_B_longestGap_0_ok 5 rfl) ?_
    refine r_invI (Mc := M_B_refuse) (pc := 10) (ci := 0) (rest := []) 0 1 [.int 1] (dq D_B_longestGap_0_ok 6 rfl) rfl rfl lc_B_refuse lv_B_refuse_ ml_B_87 rfl rfl rfl rfl (t_B_refuse v0 (1 : Int32) h1) (fun r10 h9 => ?_)
    exact r_reti (pc := 13) (dq D_B_longestGap_0_ok 7 rfl) rfl
noncomputable def f_B_hasWheelOfFeast (v0 : Nat) (v1 : Int32) (v2 : Int32) (h : Hp) : Option (Int32 × Hp) := gd (hS h v0 = some (.inl 0)) (bd (f_B_hasWheel v0 v1 h) fun r2 h1 => if r2 = 0 then (gd (zb 0) (some (0, h1))) else (gd (hS h1 v0 = some (.inl 0)) (bd (f_B_hasFeast v0 v2 h1) fun r4 h3 => if r4 = 0 then (gd (zb 0) (some (0, h3))) else (gd (hS h3 v0 = some (.inl 0)) (bR (hR h3 v0 3) fun x5 => gd (hS h3 x5 = some (.inl 2)) (bd (f_O_feastTooth x5 v2 v1 h3) fun r7 h6 => if r7 = ((-1)) then (gd (zb 0) (some (0, h6))) else (gd (zb 1) (some (1, h6)))))))))
set_option maxHeartbeats 4000000 in
set_option maxRecDepth 20000 in
theorem t_B_hasWheelOfFeast {G : GG} (v0 : Nat) (v1 : Int32) (v2 : Int32) (h : Hp) : Mt G M_B_hasWheelOfFeast 1 [.ref v0, .int v1, .int v2] cI h (f_B_hasWheelOfFeast v0 v1 v2 h) := by
  refine Mt.ofF (by decide +kernel) rfl (Rt.z rfl rfl) ?_
  show T G M_B_hasWheelOfFeast 1 cI 0 [(0, .ref v0), (1, .int v1), (2, .int v2)] [] h _
  unfold f_B_hasWheelOfFeast
  refine q_aload_n (pc := 0) (dq D_B_hasWheelOfFeast_0_ok 0 rfl) rfl 0 rfl ?_
  refine q_iload_n (pc := 1) (dq D_B_hasWheelOfFeast_0_ok 1 rfl) rfl 1 rfl ?_
  refine r_invI (Mc := M_B_hasWheel) (pc := 2) (ci := 0) (rest := []) 0 1 [.int v1] (dq D_B_hasWheelOfFeast_0_ok 2 rfl) rfl rfl lc_B_hasWheel lv_B_hasWheel_ ml_B_118 rfl rfl rfl rfl (t_B_hasWheel v0 v1 h) (fun r2 h1 => ?_)
  refine p_if_eq (pc := 5) 33 (dq D_B_hasWheelOfFeast_0_ok 3 rfl) rfl ?_ ?_
  · refine q_ic0 (pc := 33) (dq D_B_hasWheelOfFeast_0_ok 17 rfl) ?_
    exact r_retz (pc := 34) (dq D_B_hasWheelOfFeast_0_ok 18 rfl) rfl
  · refine q_aload_n (pc := 8) (dq D_B_hasWheelOfFeast_0_ok 4 rfl) rfl 0 rfl ?_
    refine q_iload_n (pc := 9) (dq D_B_hasWheelOfFeast_0_ok 5 rfl) rfl 2 rfl ?_
    refine r_invI (Mc := M_B_hasFeast) (pc := 10) (ci := 0) (rest := []) 0 1 [.int v2] (dq D_B_hasWheelOfFeast_0_ok 6 rfl) rfl rfl lc_B_hasFeast lv_B_hasFeast_ ml_B_189 rfl rfl rfl rfl (t_B_hasFeast v0 v2 h1) (fun r4 h3 => ?_)
    refine p_if_eq (pc := 13) 33 (dq D_B_hasWheelOfFeast_0_ok 7 rfl) rfl ?_ ?_
    · refine q_ic0 (pc := 33) (dq D_B_hasWheelOfFeast_0_ok 17 rfl) ?_
      exact r_retz (pc := 34) (dq D_B_hasWheelOfFeast_0_ok 18 rfl) rfl
    · refine q_aload_n (pc := 16) (dq D_B_hasWheelOfFeast_0_ok 8 rfl) rfl 0 rfl ?_
      refine q_getR (pc := 17) (dq D_B_hasWheelOfFeast_0_ok 9 rfl) fa_B_23 rfl (fun x5 => ?_)
      refine q_iload_n (pc := 20) (dq D_B_hasWheelOfFeast_0_ok 10 rfl) rfl 2 rfl ?_
      refine q_iload_n (pc := 21) (dq D_B_hasWheelOfFeast_0_ok 11 rfl) rfl 1 rfl ?_
      refine r_invI (Mc := M_O_feastTooth) (pc := 22) (ci := 2) (rest := []) 0 2 [.int v2, .int v1] (dq D_B_hasWheelOfFeast_0_ok 12 rfl) rfl rfl lc_O_feastTooth lv_O_feastTooth_ ml_B_388 rfl rfl rfl rfl (t_O_feastTooth x5 v2 v1 h3) (fun r7 h6 => ?_)
      refine q_icm1 (pc := 25) (dq D_B_hasWheelOfFeast_0_ok 13 rfl) ?_
      refine q_ic_eq (pc := 26) 33 (dq D_B_hasWheelOfFeast_0_ok 14 rfl) rfl ?_ ?_
      · refine q_ic0 (pc := 33) (dq D_B_hasWheelOfFeast_0_ok 17 rfl) ?_
        exact r_retz (pc := 34) (dq D_B_hasWheelOfFeast_0_ok 18 rfl) rfl
      · refine q_ic1 (pc := 29) (dq D_B_hasWheelOfFeast_0_ok 15 rfl) ?_
        refine q_goto (pc := 30) 34 (dq D_B_hasWheelOfFeast_0_ok 16 rfl) rfl ?_
        exact r_retz (pc := 34) (dq D_B_hasWheelOfFeast_0_ok 18 rfl) rfl
noncomputable def b_C_findReached_122 (k78 : (Nat × Nat × Int32) → Hp → Option (Unit × Hp)) (k86 : (Nat × Nat × Int32 × Int32) → Hp → Option (Unit × Hp)) (v0 : Nat) (v3 : Nat) (v4 : Int32) (v5 : Int32) (h : Hp) : Option (Unit × Hp) := gd (hS h v0 = some (.inl 5)) (bR (hR h v0 4) fun x1 => gd (hS h v0 = some (.inl 5)) (bR (hR h v0 3) fun x2 => gd (hS h v0 = some (.inl 5)) (bR (hR h v0 3) fun x3 => gd (ai h x3 0 v5) (lt (hI h x3 v5.toNatClampNeg) fun x4 => gd (ai h x2 0 x4) (lt (hI h x2 x4.toNatClampNeg) fun x5 => gd (ai h x1 0 v5) (lt (uI h x1 v5.toNatClampNeg x5) fun h6 => k86 (v0, v3, v4, v5 + 1) h6))))))
set_option maxHeartbeats 4000000 in
set_option maxRecDepth 20000 in
theorem tb_C_findReached_122 {G : GG} {k78 : (Nat × Nat × Int32) → Hp → Option (Unit × Hp)} (hk78 : ∀ s h, T G M_C_findReached 2 cU 78 [(0, .ref s.1), (3, .ref s.2.1), (4, .int s.2.2)] [] h (k78 s h)) {k86 : (Nat × Nat × Int32 × Int32) → Hp → Option (Unit × Hp)} (hk86 : ∀ s h, T G M_C_findReached 2 cU 86 [(0, .ref s.1), (3, .ref s.2.1), (4, .int s.2.2.1), (5, .int s.2.2.2)] [] h (k86 s h)) (v0 : Nat) (v3 : Nat) (v4 : Int32) (v5 : Int32) (h : Hp) : T G M_C_findReached 2 cU 122 [(0, .ref v0), (3, .ref v3), (4, .int v4), (5, .int v5)] [] h (b_C_findReached_122 k78 k86 v0 v3 v4 v5 h) := by
  unfold b_C_findReached_122
  refine q_aload_n (pc := 122) (dq D_C_findReached_1_ok 5 rfl) rfl 0 rfl ?_
  refine q_getR (pc := 123) (dq D_C_findReached_1_ok 6 rfl) fa_C_31 rfl (fun x1 => ?_)
  refine q_iload (pc := 126) (dq D_C_findReached_1_ok 7 rfl) 3 rfl ?_
  refine q_aload_n (pc := 128) (dq D_C_findReached_1_ok 8 rfl) rfl 0 rfl ?_
  refine q_getR (pc := 129) (dq D_C_findReached_1_ok 9 rfl) fa_C_28 rfl (fun x2 => ?_)
  refine q_aload_n (pc := 132) (dq D_C_findReached_1_ok 10 rfl) rfl 0 rfl ?_
  refine q_getR (pc := 133) (dq D_C_findReached_1_ok 11 rfl) fa_C_28 rfl (fun x3 => ?_)
  refine q_iload (pc := 136) (dq D_C_findReached_1_ok 12 rfl) 3 rfl ?_
  refine r_iald (pc := 138) (dq D_C_findReached_1_ok 13 rfl) (fun x4 => ?_)
  refine r_iald (pc := 139) (dq D_C_findReached_1_ok 14 rfl) (fun x5 => ?_)
  refine r_iast (pc := 140) (dq D_C_findReached_1_ok 15 rfl) (fun h6 => ?_)
  refine q_iinc (pc := 141) (v := (1)) (ls' := [(5, .int (v5 + 1)), (0, .ref v0), (3, .ref v3), (4, .int v4)]) (dq D_C_findReached_1_ok 16 rfl) 3 rfl (by decide) rfl rfl ?_
  refine q_goto (pc := 144) 86 (dq D_C_findReached_1_ok 17 rfl) rfl ?_
  exact T.lsub [1, 2, 3, 0] rfl (hk86 (v0, v3, v4, v5 + 1) h6)
noncomputable def b_C_findReached_86 (k78 : (Nat × Nat × Int32) → Hp → Option (Unit × Hp)) (k86 : (Nat × Nat × Int32 × Int32) → Hp → Option (Unit × Hp)) (v0 : Nat) (v3 : Nat) (v4 : Int32) (v5 : Int32) (h : Hp) : Option (Unit × Hp) := gd (hS h v3 = some (.inl 3)) (lt (hI h v3 1) fun x1 => if x1 ≤ v5 then (gd (hS h v0 = some (.inl 5)) (bR (hR h v0 4) fun x2 => gd (hS h v0 = some (.inl 5)) (bR (hR h v0 3) fun x3 => gd (hS h v3 = some (.inl 3)) (lt (hI h v3 1) fun x4 => gd (cpok h x2 x3 0 0 x4) (lt (uC h x2 x3 (0 : Int32).toNatClampNeg (0 : Int32).toNatClampNeg x4.toNatClampNeg) fun h5 => lt (v4 >>> (1 &&& 31) : Int32) fun y6 => k78 (v0, v3, y6) h5))))) else (if (v4 &&& 1) = 1 then (gd (hS h v0 = some (.inl 5)) (bR (hR h v0 2) fun x7 => gd (hS h v0 = some (.inl 5)) (bR (hR h v0 3) fun x8 => gd (hS h v0 = some (.inl 5)) (bR (hR h v0 2) fun x9 => gd (ai h x9 0 v5) (lt (hI h x9 v5.toNatClampNeg) fun x10 => gd (ai h x8 0 x10) (lt (hI h x8 x10.toNatClampNeg) fun x11 => gd (ai h x7 0 v5) (lt (uI h x7 v5.toNatClampNeg x11) fun h12 => b_C_findReached_122 k78 k86 v0 v3 v4 v5 h12))))))) else (b_C_findReached_122 k78 k86 v0 v3 v4 v5 h)))
set_option maxHeartbeats 4000000 in
set_option maxRecDepth 20000 in
theorem tb_C_findReached_86 {G : GG} {k78 : (Nat × Nat × Int32) → Hp → Option (Unit × Hp)} (hk78 : ∀ s h, T G M_C_findReached 2 cU 78 [(0, .ref s.1), (3, .ref s.2.1), (4, .int s.2.2)] [] h (k78 s h)) {k86 : (Nat × Nat × Int32 × Int32) → Hp → Option (Unit × Hp)} (hk86 : ∀ s h, T G M_C_findReached 2 cU 86 [(0, .ref s.1), (3, .ref s.2.1), (4, .int s.2.2.1), (5, .int s.2.2.2)] [] h (k86 s h)) (v0 : Nat) (v3 : Nat) (v4 : Int32) (v5 : Int32) (h : Hp) : T G M_C_findReached 2 cU 86 [(0, .ref v0), (3, .ref v3), (4, .int v4), (5, .int v5)] [] h (b_C_findReached_86 k78 k86 v0 v3 v4 v5 h) := by
  unfold b_C_findReached_86
  refine q_iload (pc := 86) (dq D_C_findReached_0_ok 45 rfl) 3 rfl ?_
  refine q_aload_n (pc := 88) (dq D_C_findReached_0_ok 46 rfl) rfl 1 rfl ?_
  refine r_getI (pc := 89) (dq D_C_findReached_0_ok 47 rfl) fa_C_97 rfl (fun x1 => ?_)
  refine q_ic_ge (pc := 92) 147 (dq D_C_findReached_0_ok 48 rfl) rfl ?_ ?_
  · refine q_aload_n (pc := 147) (dq D_C_findReached_1_ok 18 rfl) rfl 0 rfl ?_
    refine q_getR (pc := 148) (dq D_C_findReached_1_ok 19 rfl) fa_C_31 rfl (fun x2 => ?_)
    refine q_ic0 (pc := 151) (dq D_C_findReached_1_ok 20 rfl) ?_
    refine q_aload_n (pc := 152) (dq D_C_findReached_1_ok 21 rfl) rfl 0 rfl ?_
    refine q_getR (pc := 153) (dq D_C_findReached_1_ok 22 rfl) fa_C_28 rfl (fun x3 => ?_)
    refine q_ic0 (pc := 156) (dq D_C_findReached_1_ok 23 rfl) ?_
    refine q_aload_n (pc := 157) (dq D_C_findReached_1_ok 24 rfl) rfl 1 rfl ?_
    refine r_getI (pc := 158) (dq D_C_findReached_1_ok 25 rfl) fa_C_97 rfl (fun x4 => ?_)
    refine r_copy (pc := 161) (dq D_C_findReached_1_ok 26 rfl) lk_C_124 lac_n lac_s lac_i rfl rfl (fun h5 => ?_)
    refine q_iload (pc := 164) (dq D_C_findReached_1_ok 27 rfl) 2 rfl ?_
    refine q_ic1 (pc := 166) (dq D_C_findReached_1_ok 28 rfl) ?_
    refine q_ishr (pc := 167) (dq D_C_findReached_1_ok 29 rfl) ?_
    refine r_nmI (fun y6 => ?_)
    refine q_istore (pc := 168) (ls' := [(4, .int y6), (0, .ref v0), (3, .ref v3), (5, .int v5)]) (dq D_C_findReached_1_ok 30 rfl) rfl rfl ?_
    refine q_goto (pc := 170) 78 (dq D_C_findReached_1_ok 31 rfl) rfl ?_
    exact T.lsub [1, 2, 0] rfl (hk78 (v0, v3, y6) h5)
  · refine q_iload (pc := 95) (dq D_C_findReached_0_ok 49 rfl) 2 rfl ?_
    refine q_ic1 (pc := 97) (dq D_C_findReached_0_ok 50 rfl) ?_
    refine q_iand (pc := 98) (dq D_C_findReached_0_ok 51 rfl) ?_
    refine q_ic1 (pc := 99) (dq D_C_findReached_0_ok 52 rfl) ?_
    refine q_ic_ne (pc := 100) 122 (dq D_C_findReached_0_ok 53 rfl) rfl ?_ ?_
    · exact T.lsub [0, 1, 2, 3] rfl (tb_C_findReached_122 hk78 hk86 v0 v3 v4 v5 h)
    · refine q_aload_n (pc := 103) (dq D_C_findReached_0_ok 54 rfl) rfl 0 rfl ?_
      refine q_getR (pc := 104) (dq D_C_findReached_0_ok 55 rfl) fa_C_24 rfl (fun x7 => ?_)
      refine q_iload (pc := 107) (dq D_C_findReached_0_ok 56 rfl) 3 rfl ?_
      refine q_aload_n (pc := 109) (dq D_C_findReached_0_ok 57 rfl) rfl 0 rfl ?_
      refine q_getR (pc := 110) (dq D_C_findReached_0_ok 58 rfl) fa_C_28 rfl (fun x8 => ?_)
      refine q_aload_n (pc := 113) (dq D_C_findReached_0_ok 59 rfl) rfl 0 rfl ?_
      refine q_getR (pc := 114) (dq D_C_findReached_1_ok 0 rfl) fa_C_24 rfl (fun x9 => ?_)
      refine q_iload (pc := 117) (dq D_C_findReached_1_ok 1 rfl) 3 rfl ?_
      refine r_iald (pc := 119) (dq D_C_findReached_1_ok 2 rfl) (fun x10 => ?_)
      refine r_iald (pc := 120) (dq D_C_findReached_1_ok 3 rfl) (fun x11 => ?_)
      refine r_iast (pc := 121) (dq D_C_findReached_1_ok 4 rfl) (fun h12 => ?_)
      exact T.lsub [0, 1, 2, 3] rfl (tb_C_findReached_122 hk78 hk86 v0 v3 v4 v5 h12)
noncomputable def l_C_findReached_86 (k78 : (Nat × Nat × Int32) → Hp → Option (Unit × Hp)) : Nat → (Nat × Nat × Int32 × Int32) → Hp → Option (Unit × Hp) := lp (fun k86 s h => b_C_findReached_86 k78 k86 s.1 s.2.1 s.2.2.1 s.2.2.2 h)
set_option maxHeartbeats 4000000 in
set_option maxRecDepth 20000 in
theorem tl_C_findReached_86 {G : GG} {k78 : (Nat × Nat × Int32) → Hp → Option (Unit × Hp)} (hk78 : ∀ s h, T G M_C_findReached 2 cU 78 [(0, .ref s.1), (3, .ref s.2.1), (4, .int s.2.2)] [] h (k78 s h)) (n : Nat) (s : Nat × Nat × Int32 × Int32) (h : Hp) : T G M_C_findReached 2 cU 86 [(0, .ref s.1), (3, .ref s.2.1), (4, .int s.2.2.1), (5, .int s.2.2.2)] [] h (l_C_findReached_86 k78 n s h) :=
  T.loop (lsOf := fun s => [(0, .ref s.1), (3, .ref s.2.1), (4, .int s.2.2.1), (5, .int s.2.2.2)]) (fun k86 hk86 s h => tb_C_findReached_86 hk78 hk86 s.1 s.2.1 s.2.2.1 s.2.2.2 h) n s h
noncomputable def b_C_findReached_78 (k78 : (Nat × Nat × Int32) → Hp → Option (Unit × Hp)) (v0 : Nat) (v3 : Nat) (v4 : Int32) (h : Hp) : Option (Unit × Hp) := if v4 ≤ 0 then (some ((), h)) else (lt (0 : Int32) fun y1 => l_C_findReached_86 k78 FU (v0, v3, v4, y1) h)
set_option maxHeartbeats 4000000 in
set_option maxRecDepth 20000 in
theorem tb_C_findReached_78 {G : GG} {k78 : (Nat × Nat × Int32) → Hp → Option (Unit × Hp)} (hk78 : ∀ s h, T G M_C_findReached 2 cU 78 [(0, .ref s.1), (3, .ref s.2.1), (4, .int s.2.2)] [] h (k78 s h)) (v0 : Nat) (v3 : Nat) (v4 : Int32) (h : Hp) : T G M_C_findReached 2 cU 78 [(0, .ref v0), (3, .ref v3), (4, .int v4)] [] h (b_C_findReached_78 k78 v0 v3 v4 h) := by
  unfold b_C_findReached_78
  refine q_iload (pc := 78) (dq D_C_findReached_0_ok 41 rfl) 2 rfl ?_
  refine p_if_le (pc := 80) 173 (dq D_C_findReached_0_ok 42 rfl) rfl ?_ ?_
  · exact r_retu (pc := 173) (dq D_C_findReached_1_ok 32 rfl) rfl
  · refine q_ic0 (pc := 83) (dq D_C_findReached_0_ok 43 rfl) ?_
    refine r_nmI (fun y1 => ?_)
    refine q_istore (pc := 84) (ls' := [(5, .int y1), (0, .ref v0), (3, .ref v3), (4, .int v4)]) (dq D_C_findReached_0_ok 44 rfl) rfl rfl ?_
    exact T.lsub [1, 2, 3, 0] rfl (tl_C_findReached_86 hk78 FU (v0, v3, v4, y1) h)
noncomputable def l_C_findReached_78 : Nat → (Nat × Nat × Int32) → Hp → Option (Unit × Hp) := lp (fun k78 s h => b_C_findReached_78 k78 s.1 s.2.1 s.2.2 h)
set_option maxHeartbeats 4000000 in
set_option maxRecDepth 20000 in
theorem tl_C_findReached_78 {G : GG} (n : Nat) (s : Nat × Nat × Int32) (h : Hp) : T G M_C_findReached 2 cU 78 [(0, .ref s.1), (3, .ref s.2.1), (4, .int s.2.2)] [] h (l_C_findReached_78 n s h) :=
  T.loop (lsOf := fun s => [(0, .ref s.1), (3, .ref s.2.1), (4, .int s.2.2)]) (fun k78 hk78 s h => tb_C_findReached_78 hk78 s.1 s.2.1 s.2.2 h) n s h
noncomputable def b_C_findReached_13 (k13 : (Nat × Int32 × Int32 × Nat × Int32) → Hp → Option (Unit × Hp)) (v0 : Nat) (v1 : Int32) (v2 : Int32) (v3 : Nat) (v4 : Int32) (h : Hp) : Option (Unit × Hp) := gd (hS h v3 = some (.inl 3)) (lt (hI h v3 1) fun x1 => if x1 ≤ v4 then (gd (hS h v0 = some (.inl 5)) (bR (hR h v0 0) fun x2 => gd (ai h x2 5 v1) (bR (hR h x2 v1.toNatClampNeg) fun x3 => gd (hS h x3 = some (.inl 6)) (bd (f_U_goingsUntil x3 v2 h) fun r5 h4 => l_C_findReached_78 FU (v0, v3, r5) h4)))) else (gd (hS h v0 = some (.inl 5)) (bR (hR h v0 2) fun x6 => gd (ai h x6 0 v4) (lt (uI h x6 v4.toNatClampNeg v4) fun h7 => gd (hS h7 v0 = some (.inl 5)) (bR (hR h7 v0 3) fun x8 => gd (hS h7 v3 = some (.inl 3)) (lt (hI h7 v3 2) fun x9 => gd (hS h7 v3 = some (.inl 3)) (bd (f_W_way v3 h7) fun r11 h10 => gd (hS h10 v3 = some (.inl 3)) (bd (f_W_landing v3 v4 x9 r11 h10) fun r13 h12 => gd (hS h12 v3 = some (.inl 3)) (bd (f_W_way v3 h12) fun r15 h14 => gd (hS h14 v3 = some (.inl 3)) (bd (f_W_resting v3 r13 r15 h14) fun r17 h16 => gd (ai h16 x8 0 v4) (lt (uI h16 x8 v4.toNatClampNeg r17) fun h18 => k13 (v0, v1, v2, v3, v4 + 1) h18)))))))))))
set_option maxHeartbeats 4000000 in
set_option maxRecDepth 20000 in
theorem tb_C_findReached_13 {G : GG} {k13 : (Nat × Int32 × Int32 × Nat × Int32) → Hp → Option (Unit × Hp)} (hk13 : ∀ s h, T G M_C_findReached 2 cU 13 [(0, .ref s.1), (1, .int s.2.1), (2, .int s.2.2.1), (3, .ref s.2.2.2.1), (4, .int s.2.2.2.2)] [] h (k13 s h)) (v0 : Nat) (v1 : Int32) (v2 : Int32) (v3 : Nat) (v4 : Int32) (h : Hp) : T G M_C_findReached 2 cU 13 [(0, .ref v0), (1, .int v1), (2, .int v2), (3, .ref v3), (4, .int v4)] [] h (b_C_findReached_13 k13 v0 v1 v2 v3 v4 h) := by
  unfold b_C_findReached_13
  refine q_iload (pc := 13) (dq D_C_findReached_0_ok 8 rfl) 4 rfl ?_
  refine q_aload_n (pc := 15) (dq D_C_findReached_0_ok 9 rfl) rfl 3 rfl ?_
  refine r_getI (pc := 16) (dq D_C_findReached_0_ok 10 rfl) fa_C_97 rfl (fun x1 => ?_)
  refine q_ic_ge (pc := 19) 66 (dq D_C_findReached_0_ok 11 rfl) rfl ?_ ?_
  · refine q_aload_n (pc := 66) (dq D_C_findReached_0_ok 34 rfl) rfl 0 rfl ?_
    refine q_getR (pc := 67) (dq D_C_findReached_0_ok 35 rfl) fa_C_11 rfl (fun x2 => ?_)
    refine q_iload_n (pc := 70) (dq D_C_findReached_0_ok 36 rfl) rfl 1 rfl ?_
    refine r_aald (pc := 71) 5 (dq D_C_findReached_0_ok 37 rfl) rfl rfl (fun _ => rfl) (fun x3 => ?_)
    refine q_iload_n (pc := 72) (dq D_C_findReached_0_ok 38 rfl) rfl 2 rfl ?_
    refine r_invI (Mc := M_U_goingsUntil) (pc := 73) (ci := 6) (rest := []) 1 1 [.int v2] (dq D_C_findReached_0_ok 39 rfl) rfl rfl lc_U_goingsUntil lv_U_goingsUntil_ ml_C_121 rfl rfl rfl rfl (t_U_goingsUntil x3 v2 h) (fun r5 h4 => ?_)
    refine q_istore (pc := 76) (ls' := [(4, .int r5), (0, .ref v0), (1, .int v1), (2, .int v2), (3, .ref v3)]) (dq D_C_findReached_0_ok 40 rfl) rfl rfl ?_
    exact T.lsub [1, 4, 0] rfl (tl_C_findReached_78 FU (v0, v3, r5) h4)
  · refine q_aload_n (pc := 22) (dq D_C_findReached_0_ok 12 rfl) rfl 0 rfl ?_
    refine q_getR (pc := 23) (dq D_C_findReached_0_ok 13 rfl) fa_C_24 rfl (fun x6 => ?_)
    refine q_iload (pc := 26) (dq D_C_findReached_0_ok 14 rfl) 4 rfl ?_
    refine q_iload (pc := 28) (dq D_C_findReached_0_ok 15 rfl) 4 rfl ?_
    refine r_iast (pc := 30) (dq D_C_findReached_0_ok 16 rfl) (fun h7 => ?_)
    refine q_aload_n (pc := 31) (dq D_C_findReached_0_ok 17 rfl) rfl 0 rfl ?_
    refine q_getR (pc := 32) (dq D_C_findReached_0_ok 18 rfl) fa_C_28 rfl (fun x8 => ?_)
    refine q_iload (pc := 35) (dq D_C_findReached_0_ok 19 rfl) 4 rfl ?_
    refine q_aload_n (pc := 37) (dq D_C_findReached_0_ok 20 rfl) rfl 3 rfl ?_
    refine q_aload_n (pc := 38) (dq D_C_findReached_0_ok 21 rfl) rfl 3 rfl ?_
    refine q_iload (pc := 39) (dq D_C_findReached_0_ok 22 rfl) 4 rfl ?_
    refine q_aload_n (pc := 41) (dq D_C_findReached_0_ok 23 rfl) rfl 3 rfl ?_
    refine r_getI (pc := 42) (dq D_C_findReached_0_ok 24 rfl) fa_C_108 rfl (fun x9 => ?_)
    refine q_aload_n (pc := 45) (dq D_C_findReached_0_ok 25 rfl) rfl 3 rfl ?_
    refine r_invI (Mc := M_W_way) (pc := 46) (ci := 3) (rest := [.int x9, .int v4, .ref v3, .ref v3, .int v4, .ref x8]) 0 0 [] (dq D_C_findReached_0_ok 26 rfl) rfl rfl lc_W_way lv_W_way_ ml_C_111 rfl rfl rfl rfl (t_W_way v3 h7) (fun r11 h10 => ?_)
    refine r_invI (Mc := M_W_landing) (pc := 49) (ci := 3) (rest := [.ref v3, .int v4, .ref x8]) 0 3 [.int v4, .int x9, .int r11] (dq D_C_findReached_0_ok 27 rfl) rfl rfl lc_W_landing lv_W_landing_ ml_C_115 rfl rfl rfl rfl (t_W_landing v3 v4 x9 r11 h10) (fun r13 h12 => ?_)
    refine q_aload_n (pc := 52) (dq D_C_findReached_0_ok 28 rfl) rfl 3 rfl ?_
    refine r_invI (Mc := M_W_way) (pc := 53) (ci := 3) (rest := [.int r13, .ref v3, .int v4, .ref x8]) 0 0 [] (dq D_C_findReached_0_ok 29 rfl) rfl rfl lc_W_way lv_W_way_ ml_C_111 rfl rfl rfl rfl (t_W_way v3 h12) (fun r15 h14 => ?_)
    refine r_invI (Mc := M_W_resting) (pc := 56) (ci := 3) (rest := [.int v4, .ref x8]) 0 2 [.int r13, .int r15] (dq D_C_findReached_0_ok 30 rfl) rfl rfl lc_W_resting lv_W_resting_ ml_C_118 rfl rfl rfl rfl (t_W_resting v3 r13 r15 h14) (fun r17 h16 => ?_)
    refine r_iast (pc := 59) (dq D_C_findReached_0_ok 31 rfl) (fun h18 => ?_)
    refine q_iinc (pc := 60) (v := (1)) (ls' := [(4, .int (v4 + 1)), (0, .ref v0), (1, .int v1), (2, .int v2), (3, .ref v3)]) (dq D_C_findReached_0_ok 32 rfl) 4 rfl (by decide) rfl rfl ?_
    refine q_goto (pc := 63) 13 (dq D_C_findReached_0_ok 33 rfl) rfl ?_
    exact T.lsub [1, 2, 3, 4, 0] rfl (hk13 (v0, v1, v2, v3, v4 + 1) h18)
noncomputable def l_C_findReached_13 : Nat → (Nat × Int32 × Int32 × Nat × Int32) → Hp → Option (Unit × Hp) := lp (fun k13 s h => b_C_findReached_13 k13 s.1 s.2.1 s.2.2.1 s.2.2.2.1 s.2.2.2.2 h)
set_option maxHeartbeats 4000000 in
set_option maxRecDepth 20000 in
theorem tl_C_findReached_13 {G : GG} (n : Nat) (s : Nat × Int32 × Int32 × Nat × Int32) (h : Hp) : T G M_C_findReached 2 cU 13 [(0, .ref s.1), (1, .int s.2.1), (2, .int s.2.2.1), (3, .ref s.2.2.2.1), (4, .int s.2.2.2.2)] [] h (l_C_findReached_13 n s h) :=
  T.loop (lsOf := fun s => [(0, .ref s.1), (1, .int s.2.1), (2, .int s.2.2.1), (3, .ref s.2.2.2.1), (4, .int s.2.2.2.2)]) (fun k13 hk13 s h => tb_C_findReached_13 hk13 s.1 s.2.1 s.2.2.1 s.2.2.2.1 s.2.2.2.2 h) n s h
noncomputable def f_C_findReached (v0 : Nat) (v1 : Int32) (v2 : Int32) (h : Hp) : Option (Unit × Hp) := gd (hS h v0 = some (.inl 5)) (bR (hR h v0 5) fun x1 => gd (hS h x1 = some (.inl 2)) (bR (hR h x1 3) fun x2 => gd (ai h x2 4 v1) (bR (hR h x2 v1.toNatClampNeg) fun x3 => lt (0 : Int32) fun y4 => l_C_findReached_13 FU (v0, v1, v2, x3, y4) h)))
set_option maxHeartbeats 4000000 in
set_option maxRecDepth 20000 in
theorem t_C_findReached {G : GG} (v0 : Nat) (v1 : Int32) (v2 : Int32) (h : Hp) : Mt G M_C_findReached 2 [.ref v0, .int v1, .int v2] cU h (f_C_findReached v0 v1 v2 h) := by
  refine Mt.ofF (by decide +kernel) rfl (Rt.v rfl rfl) ?_
  show T G M_C_findReached 2 cU 0 [(0, .ref v0), (1, .int v1), (2, .int v2)] [] h _
  unfold f_C_findReached
  refine q_aload_n (pc := 0) (dq D_C_findReached_0_ok 0 rfl) rfl 0 rfl ?_
  refine q_getR (pc := 1) (dq D_C_findReached_0_ok 1 rfl) fa_C_45 rfl (fun x1 => ?_)
  refine q_getR (pc := 4) (dq D_C_findReached_0_ok 2 rfl) fa_C_52 rfl (fun x2 => ?_)
  refine q_iload_n (pc := 7) (dq D_C_findReached_0_ok 3 rfl) rfl 1 rfl ?_
  refine r_aald (pc := 8) 4 (dq D_C_findReached_0_ok 4 rfl) rfl rfl (fun _ => rfl) (fun x3 => ?_)
  refine q_astore_n (pc := 9) (ls' := [(3, .ref x3), (0, .ref v0), (1, .int v1), (2, .int v2)]) (dq D_C_findReached_0_ok 5 rfl) rfl rfl rfl ?_
  refine q_ic0 (pc := 10) (dq D_C_findReached_0_ok 6 rfl) ?_
  refine r_nmI (fun y4 => ?_)
  refine q_istore (pc := 11) (ls' := [(4, .int y4), (3, .ref x3), (0, .ref v0), (1, .int v1), (2, .int v2)]) (dq D_C_findReached_0_ok 7 rfl) rfl rfl ?_
  exact T.lsub [2, 3, 4, 1, 0] rfl (tl_C_findReached_13 FU (v0, v1, v2, x3, y4) h)
noncomputable def b_C_settingFor_126 (k84 : (Nat × Int32 × Int32 × Nat × Int32) → Hp → Option (Int32 × Hp)) (v0 : Nat) (v1 : Int32) (v2 : Int32) (v4 : Nat) (v5 : Int32) (h : Hp) : Option (Int32 × Hp) := k84 (v0, v1, v2, v4, v5 + 1) h
set_option maxHeartbeats 4000000 in
set_option maxRecDepth 20000 in
theorem tb_C_settingFor_126 {G : GG} {k84 : (Nat × Int32 × Int32 × Nat × Int32) → Hp → Option (Int32 × Hp)} (hk84 : ∀ s h, T G M_C_settingFor 3 cI 84 [(0, .ref s.1), (1, .int s.2.1), (2, .int s.2.2.1), (4, .ref s.2.2.2.1), (5, .int s.2.2.2.2)] [] h (k84 s h)) (v0 : Nat) (v1 : Int32) (v2 : Int32) (v4 : Nat) (v5 : Int32) (h : Hp) : T G M_C_settingFor 3 cI 126 [(0, .ref v0), (1, .int v1), (2, .int v2), (4, .ref v4), (5, .int v5)] [] h (b_C_settingFor_126 k84 v0 v1 v2 v4 v5 h) := by
  unfold b_C_settingFor_126
  refine q_iinc (pc := 126) (v := (1)) (ls' := [(5, .int (v5 + 1)), (0, .ref v0), (1, .int v1), (2, .int v2), (4, .ref v4)]) (dq D_C_settingFor_1_ok 3 rfl) 4 rfl (by decide) rfl rfl ?_
  refine q_goto (pc := 129) 84 (dq D_C_settingFor_1_ok 4 rfl) rfl ?_
  exact T.lsub [1, 2, 3, 4, 0] rfl (hk84 (v0, v1, v2, v4, v5 + 1) h)
noncomputable def b_C_settingFor_84 (k84 : (Nat × Int32 × Int32 × Nat × Int32) → Hp → Option (Int32 × Hp)) (v0 : Nat) (v1 : Int32) (v2 : Int32) (v4 : Nat) (v5 : Int32) (h : Hp) : Option (Int32 × Hp) := gd (hS h v4 = some (.inl 3)) (lt (hI h v4 1) fun x1 => if x1 ≤ v5 then (some ((-2), h)) else (gd (hS h v4 = some (.inl 3)) (bd (f_W_lacks v4 v5 h) fun r3 h2 => if r3 = 0 then (gd (hS h2 v0 = some (.inl 5)) (bR (hR h2 v0 2) fun x4 => gd (ai h2 x4 0 v5) (lt (hI h2 x4 v5.toNatClampNeg) fun x5 => gd (hS h2 v0 = some (.inl 5)) (bR (hR h2 v0 5) fun x6 => gd (hS h2 x6 = some (.inl 2)) (bd (f_O_feastTooth x6 v2 v1 h2) fun r8 h7 => if x5 = r8 then (some (v5, h7)) else (b_C_settingFor_126 k84 v0 v1 v2 v4 v5 h7)))))) else (b_C_settingFor_126 k84 v0 v1 v2 v4 v5 h2))))
set_option maxHeartbeats 4000000 in
set_option maxRecDepth 20000 in
theorem tb_C_settingFor_84 {G : GG} {k84 : (Nat × Int32 × Int32 × Nat × Int32) → Hp → Option (Int32 × Hp)} (hk84 : ∀ s h, T G M_C_settingFor 3 cI 84 [(0, .ref s.1), (1, .int s.2.1), (2, .int s.2.2.1), (4, .ref s.2.2.2.1), (5, .int s.2.2.2.2)] [] h (k84 s h)) (v0 : Nat) (v1 : Int32) (v2 : Int32) (v4 : Nat) (v5 : Int32) (h : Hp) : T G M_C_settingFor 3 cI 84 [(0, .ref v0), (1, .int v1), (2, .int v2), (4, .ref v4), (5, .int v5)] [] h (b_C_settingFor_84 k84 v0 v1 v2 v4 v5 h) := by
  unfold b_C_settingFor_84
  refine q_iload (pc := 84) (dq D_C_settingFor_0_ok 43 rfl) 4 rfl ?_
  refine q_aload (pc := 86) (dq D_C_settingFor_0_ok 44 rfl) 3 rfl ?_
  refine r_getI (pc := 88) (dq D_C_settingFor_0_ok 45 rfl) fa_C_97 rfl (fun x1 => ?_)
  refine q_ic_ge (pc := 91) 132 (dq D_C_settingFor_0_ok 46 rfl) rfl ?_ ?_
  · refine q_bipush (pc := 132) (v := (-2)) (dq D_C_settingFor_1_ok 5 rfl) (by decide) ?_
    exact r_reti (pc := 134) (dq D_C_settingFor_1_ok 6 rfl) rfl
  · refine q_aload (pc := 94) (dq D_C_settingFor_0_ok 47 rfl) 3 rfl ?_
    refine q_iload (pc := 96) (dq D_C_settingFor_0_ok 48 rfl) 4 rfl ?_
    refine r_invI (Mc := M_W_lacks) (pc := 98) (ci := 3) (rest := []) 0 1 [.int v5] (dq D_C_settingFor_0_ok 49 rfl) rfl rfl lc_W_lacks lv_W_lacks_ ml_C_100 rfl rfl rfl rfl (t_W_lacks v4 v5 h) (fun r3 h2 => ?_)
    refine p_if_ne (pc := 101) 126 (dq D_C_settingFor_0_ok 50 rfl) rfl ?_ ?_
    · exact T.lsub [0, 1, 2, 3, 4] rfl (tb_C_settingFor_126 hk84 v0 v1 v2 v4 v5 h2)
    · refine q_aload_n (pc := 104) (dq D_C_settingFor_0_ok 51 rfl) rfl 0 rfl ?_
      refine q_getR (pc := 105) (dq D_C_settingFor_0_ok 52 rfl) fa_C_24 rfl (fun x4 => ?_)
      refine q_iload (pc := 108) (dq D_C_settingFor_0_ok 53 rfl) 4 rfl ?_
      refine r_iald (pc := 110) (dq D_C_settingFor_0_ok 54 rfl) (fun x5 => ?_)
      refine q_aload_n (pc := 111) (dq D_C_settingFor_0_ok 55 rfl) rfl 0 rfl ?_
      refine q_getR (pc := 112) (dq D_C_settingFor_0_ok 56 rfl) fa_C_45 rfl (fun x6 => ?_)
      refine q_iload_n (pc := 115) (dq D_C_settingFor_0_ok 57 rfl) rfl 2 rfl ?_
      refine q_iload_n (pc := 116) (dq D_C_settingFor_0_ok 58 rfl) rfl 1 rfl ?_
      refine r_invI (Mc := M_O_feastTooth) (pc := 117) (ci := 2) (rest := [.int x5]) 0 2 [.int v2, .int v1] (dq D_C_settingFor_0_ok 59 rfl) rfl rfl lc_O_feastTooth lv_O_feastTooth_ ml_C_76 rfl rfl rfl rfl (t_O_feastTooth x6 v2 v1 h2) (fun r8 h7 => ?_)
      refine q_ic_ne (pc := 120) 126 (dq D_C_settingFor_1_ok 0 rfl) rfl ?_ ?_
      · exact T.lsub [0, 1, 2, 3, 4] rfl (tb_C_settingFor_126 hk84 v0 v1 v2 v4 v5 h7)
      · refine q_iload (pc := 123) (dq D_C_settingFor_1_ok 1 rfl) 4 rfl ?_
        exact r_reti (pc := 125) (dq D_C_settingFor_1_ok 2 rfl) rfl
noncomputable def l_C_settingFor_84 : Nat → (Nat × Int32 × Int32 × Nat × Int32) → Hp → Option (Int32 × Hp) := lp (fun k84 s h => b_C_settingFor_84 k84 s.1 s.2.1 s.2.2.1 s.2.2.2.1 s.2.2.2.2 h)
set_option maxHeartbeats 4000000 in
set_option maxRecDepth 20000 in
theorem tl_C_settingFor_84 {G : GG} (n : Nat) (s : Nat × Int32 × Int32 × Nat × Int32) (h : Hp) : T G M_C_settingFor 3 cI 84 [(0, .ref s.1), (1, .int s.2.1), (2, .int s.2.2.1), (4, .ref s.2.2.2.1), (5, .int s.2.2.2.2)] [] h (l_C_settingFor_84 n s h) :=
  T.loop (lsOf := fun s => [(0, .ref s.1), (1, .int s.2.1), (2, .int s.2.2.1), (4, .ref s.2.2.2.1), (5, .int s.2.2.2.2)]) (fun k84 hk84 s h => tb_C_settingFor_84 hk84 s.1 s.2.1 s.2.2.1 s.2.2.2.1 s.2.2.2.2 h) n s h
noncomputable def b_C_settingFor_58 (k3 : (Nat × Int32 × Int32 × Int32 × Int32) → Hp → Option (Int32 × Hp)) (v0 : Nat) (v1 : Int32) (v2 : Int32) (v3 : Int32) (v4 : Int32) (h : Hp) : Option (Int32 × Hp) := k3 (v0, v1, v2, v3, v4 + 1) h
set_option maxHeartbeats 4000000 in
set_option maxRecDepth 20000 in
theorem tb_C_settingFor_58 {G : GG} {k3 : (Nat × Int32 × Int32 × Int32 × Int32) → Hp → Option (Int32 × Hp)} (hk3 : ∀ s h, T G M_C_settingFor 3 cI 3 [(0, .ref s.1), (1, .int s.2.1), (2, .int s.2.2.1), (3, .int s.2.2.2.1), (4, .int s.2.2.2.2)] [] h (k3 s h)) (v0 : Nat) (v1 : Int32) (v2 : Int32) (v3 : Int32) (v4 : Int32) (h : Hp) : T G M_C_settingFor 3 cI 58 [(0, .ref v0), (1, .int v1), (2, .int v2), (3, .int v3), (4, .int v4)] [] h (b_C_settingFor_58 k3 v0 v1 v2 v3 v4 h) := by
  unfold b_C_settingFor_58
  refine q_iinc (pc := 58) (v := (1)) (ls' := [(4, .int (v4 + 1)), (0, .ref v0), (1, .int v1), (2, .int v2), (3, .int v3)]) (dq D_C_settingFor_0_ok 29 rfl) 4 rfl (by decide) rfl rfl ?_
  refine q_goto (pc := 61) 3 (dq D_C_settingFor_0_ok 30 rfl) rfl ?_
  exact T.lsub [1, 2, 3, 4, 0] rfl (hk3 (v0, v1, v2, v3, v4 + 1) h)
noncomputable def b_C_settingFor_3 (k3 : (Nat × Int32 × Int32 × Int32 × Int32) → Hp → Option (Int32 × Hp)) (v0 : Nat) (v1 : Int32) (v2 : Int32) (v3 : Int32) (v4 : Int32) (h : Hp) : Option (Int32 × Hp) := gd (hS h v0 = some (.inl 5)) (bR (hR h v0 5) fun x1 => gd (hS h x1 = some (.inl 2)) (lt (hI h x1 2) fun x2 => if x2 ≤ v4 then (gd (hS h v0 = some (.inl 5)) (bd (f_C_findReached v0 v1 v3 h) fun _ h3 => gd (hS h3 v0 = some (.inl 5)) (bR (hR h3 v0 5) fun x5 => gd (hS h3 x5 = some (.inl 2)) (bR (hR h3 x5 3) fun x6 => gd (ai h3 x6 4 v1) (bR (hR h3 x6 v1.toNatClampNeg) fun x7 => lt (0 : Int32) fun y8 => l_C_settingFor_84 FU (v0, v1, v2, x7, y8) h3))))) else (gd (hS h v0 = some (.inl 5)) (bR (hR h v0 5) fun x9 => gd (hS h x9 = some (.inl 2)) (bd (f_O_feastTooth x9 v2 v4 h) fun r11 h10 => if v4 = v1 then (b_C_settingFor_58 k3 v0 v1 v2 v3 v4 h10) else (if r11 = ((-1)) then (b_C_settingFor_58 k3 v0 v1 v2 v3 v4 h10) else (gd (hS h10 v0 = some (.inl 5)) (bR (hR h10 v0 0) fun x12 => gd (ai h10 x12 5 v4) (bR (hR h10 x12 v4.toNatClampNeg) fun x13 => gd (hS h10 x13 = some (.inl 6)) (bd (f_U_toothOn x13 v3 h10) fun r15 h14 => if r15 = r11 then (b_C_settingFor_58 k3 v0 v1 v2 v3 v4 h14) else (some ((-2), h14))))))))))))
set_option maxHeartbeats 4000000 in
set_option maxRecDepth 20000 in
theorem tb_C_settingFor_3 {G : GG} {k3 : (Nat × Int32 × Int32 × Int32 × Int32) → Hp → Option (Int32 × Hp)} (hk3 : ∀ s h, T G M_C_settingFor 3 cI 3 [(0, .ref s.1), (1, .int s.2.1), (2, .int s.2.2.1), (3, .int s.2.2.2.1), (4, .int s.2.2.2.2)] [] h (k3 s h)) (v0 : Nat) (v1 : Int32) (v2 : Int32) (v3 : Int32) (v4 : Int32) (h : Hp) : T G M_C_settingFor 3 cI 3 [(0, .ref v0), (1, .int v1), (2, .int v2), (3, .int v3), (4, .int v4)] [] h (b_C_settingFor_3 k3 v0 v1 v2 v3 v4 h) := by
  unfold b_C_settingFor_3
  refine q_iload (pc := 3) (dq D_C_settingFor_0_ok 2 rfl) 4 rfl ?_
  refine q_aload_n (pc := 5) (dq D_C_settingFor_0_ok 3 rfl) rfl 0 rfl ?_
  refine q_getR (pc := 6) (dq D_C_settingFor_0_ok 4 rfl) fa_C_45 rfl (fun x1 => ?_)
  refine r_getI (pc := 9) (dq D_C_settingFor_0_ok 5 rfl) fa_C_35 rfl (fun x2 => ?_)
  refine q_ic_ge (pc := 12) 64 (dq D_C_settingFor_0_ok 6 rfl) rfl ?_ ?_
  · refine q_aload_n (pc := 64) (dq D_C_settingFor_0_ok 31 rfl) rfl 0 rfl ?_
    refine q_iload_n (pc := 65) (dq D_C_settingFor_0_ok 32 rfl) rfl 1 rfl ?_
    refine q_iload_n (pc := 66) (dq D_C_settingFor_0_ok 33 rfl) rfl 3 rfl ?_
    refine r_invU (Mc := M_C_findReached) (pc := 67) (ci := 5) (rest := []) 2 2 [.int v1, .int v3] (dq D_C_settingFor_0_ok 34 rfl) rfl rfl lc_C_findReached lv_C_findReached_ ml_C_93 rfl rfl rfl rfl (t_C_findReached v0 v1 v3 h) (fun _ h3 => ?_)
    refine q_aload_n (pc := 70) (dq D_C_settingFor_0_ok 35 rfl) rfl 0 rfl ?_
    refine q_getR (pc := 71) (dq D_C_settingFor_0_ok 36 rfl) fa_C_45 rfl (fun x5 => ?_)
    refine q_getR (pc := 74) (dq D_C_settingFor_0_ok 37 rfl) fa_C_52 rfl (fun x6 => ?_)
    refine q_iload_n (pc := 77) (dq D_C_settingFor_0_ok 38 rfl) rfl 1 rfl ?_
    refine r_aald (pc := 78) 4 (dq D_C_settingFor_0_ok 39 rfl) rfl rfl (fun _ => rfl) (fun x7 => ?_)
    refine q_astore (pc := 79) (ls' := [(4, .ref x7), (0, .ref v0), (1, .int v1), (2, .int v2), (3, .int v3)]) (dq D_C_settingFor_0_ok 40 rfl) rfl rfl ?_
    refine q_ic0 (pc := 81) (dq D_C_settingFor_0_ok 41 rfl) ?_
    refine r_nmI (fun y8 => ?_)
    refine q_istore (pc := 82) (ls' := [(5, .int y8), (4, .ref x7), (0, .ref v0), (1, .int v1), (2, .int v2), (3, .int v3)]) (dq D_C_settingFor_0_ok 42 rfl) rfl rfl ?_
    exact T.lsub [2, 3, 4, 1, 0] rfl (tl_C_settingFor_84 FU (v0, v1, v2, x7, y8) h3)
  · refine q_aload_n (pc := 15) (dq D_C_settingFor_0_ok 7 rfl) rfl 0 rfl ?_
    refine q_getR (pc := 16) (dq D_C_settingFor_0_ok 8 rfl) fa_C_45 rfl (fun x9 => ?_)
    refine q_iload_n (pc := 19) (dq D_C_settingFor_0_ok 9 rfl) rfl 2 rfl ?_
    refine q_iload (pc := 20) (dq D_C_settingFor_0_ok 10 rfl) 4 rfl ?_
    refine r_invI (Mc := M_O_feastTooth) (pc := 22) (ci := 2) (rest := []) 0 2 [.int v2, .int v4] (dq D_C_settingFor_0_ok 11 rfl) rfl rfl lc_O_feastTooth lv_O_feastTooth_ ml_C_76 rfl rfl rfl rfl (t_O_feastTooth x9 v2 v4 h) (fun r11 h10 => ?_)
    refine q_istore (pc := 25) (ls' := [(5, .int r11), (0, .ref v0), (1, .int v1), (2, .int v2), (3, .int v3), (4, .int v4)]) (dq D_C_settingFor_0_ok 12 rfl) rfl rfl ?_
    refine q_iload (pc := 27) (dq D_C_settingFor_0_ok 13 rfl) 5 rfl ?_
    refine q_iload_n (pc := 29) (dq D_C_settingFor_0_ok 14 rfl) rfl 2 rfl ?_
    refine q_ic_eq (pc := 30) 58 (dq D_C_settingFor_0_ok 15 rfl) rfl ?_ ?_
    · exact T.lsub [1, 2, 3, 4, 5] rfl (tb_C_settingFor_58 hk3 v0 v1 v2 v3 v4 h10)
    · refine q_iload (pc := 33) (dq D_C_settingFor_0_ok 16 rfl) 0 rfl ?_
      refine q_icm1 (pc := 35) (dq D_C_settingFor_0_ok 17 rfl) ?_
      refine q_ic_eq (pc := 36) 58 (dq D_C_settingFor_0_ok 18 rfl) rfl ?_ ?_
      · exact T.lsub [1, 2, 3, 4, 5] rfl (tb_C_settingFor_58 hk3 v0 v1 v2 v3 v4 h10)
      · refine q_aload_n (pc := 39) (dq D_C_settingFor_0_ok 19 rfl) rfl 1 rfl ?_
        refine q_getR (pc := 40) (dq D_C_settingFor_0_ok 20 rfl) fa_C_11 rfl (fun x12 => ?_)
        refine q_iload (pc := 43) (dq D_C_settingFor_0_ok 21 rfl) 5 rfl ?_
        refine r_aald (pc := 45) 5 (dq D_C_settingFor_0_ok 22 rfl) rfl rfl (fun _ => rfl) (fun x13 => ?_)
        refine q_iload_n (pc := 46) (dq D_C_settingFor_0_ok 23 rfl) rfl 4 rfl ?_
        refine r_invI (Mc := M_U_toothOn) (pc := 47) (ci := 6) (rest := []) 2 1 [.int v3] (dq D_C_settingFor_0_ok 24 rfl) rfl rfl lc_U_toothOn lv_U_toothOn_ ml_C_89 rfl rfl rfl rfl (t_U_toothOn x13 v3 h10) (fun r15 h14 => ?_)
        refine q_iload (pc := 50) (dq D_C_settingFor_0_ok 25 rfl) 0 rfl ?_
        refine q_ic_eq (pc := 52) 58 (dq D_C_settingFor_0_ok 26 rfl) rfl ?_ ?_
        · exact T.lsub [1, 2, 3, 4, 5] rfl (tb_C_settingFor_58 hk3 v0 v1 v2 v3 v4 h14)
        · refine q_bipush (pc := 55) (v := (-2)) (dq D_C_settingFor_0_ok 27 rfl) (by decide) ?_
          exact r_reti (pc := 57) (dq D_C_settingFor_0_ok 28 rfl) rfl
noncomputable def l_C_settingFor_3 : Nat → (Nat × Int32 × Int32 × Int32 × Int32) → Hp → Option (Int32 × Hp) := lp (fun k3 s h => b_C_settingFor_3 k3 s.1 s.2.1 s.2.2.1 s.2.2.2.1 s.2.2.2.2 h)
set_option maxHeartbeats 4000000 in
set_option maxRecDepth 20000 in
theorem tl_C_settingFor_3 {G : GG} (n : Nat) (s : Nat × Int32 × Int32 × Int32 × Int32) (h : Hp) : T G M_C_settingFor 3 cI 3 [(0, .ref s.1), (1, .int s.2.1), (2, .int s.2.2.1), (3, .int s.2.2.2.1), (4, .int s.2.2.2.2)] [] h (l_C_settingFor_3 n s h) :=
  T.loop (lsOf := fun s => [(0, .ref s.1), (1, .int s.2.1), (2, .int s.2.2.1), (3, .int s.2.2.2.1), (4, .int s.2.2.2.2)]) (fun k3 hk3 s h => tb_C_settingFor_3 hk3 s.1 s.2.1 s.2.2.1 s.2.2.2.1 s.2.2.2.2 h) n s h
noncomputable def f_C_settingFor (v0 : Nat) (v1 : Int32) (v2 : Int32) (v3 : Int32) (h : Hp) : Option (Int32 × Hp) := lt (0 : Int32) fun y1 => l_C_settingFor_3 FU (v0, v1, v2, v3, y1) h
set_option maxHeartbeats 4000000 in
set_option maxRecDepth 20000 in
theorem t_C_settingFor {G : GG} (v0 : Nat) (v1 : Int32) (v2 : Int32) (v3 : Int32) (h : Hp) : Mt G M_C_settingFor 3 [.ref v0, .int v1, .int v2, .int v3] cI h (f_C_settingFor v0 v1 v2 v3 h) := by
  refine Mt.ofF (by decide +kernel) rfl (Rt.i rfl rfl) ?_
  show T G M_C_settingFor 3 cI 0 [(0, .ref v0), (1, .int v1), (2, .int v2), (3, .int v3)] [] h _
  unfold f_C_settingFor
  refine q_ic0 (pc := 0) (dq D_C_settingFor_0_ok 0 rfl) ?_
  refine r_nmI (fun y1 => ?_)
  refine q_istore (pc := 1) (ls' := [(4, .int y1), (0, .ref v0), (1, .int v1), (2, .int v2), (3, .int v3)]) (dq D_C_settingFor_0_ok 1 rfl) rfl rfl ?_
  exact T.lsub [1, 2, 3, 4, 0] rfl (tl_C_settingFor_3 FU (v0, v1, v2, v3, y1) h)
noncomputable def b_B_setFor_27 (v0 : Nat) (h : Hp) : Option (Int32 × Hp) := gd (hS h v0 = some (.inl 0)) (bd (f_B_refuse v0 (2 : Int32) h) fun r2 h1 => some (r2, h1))
set_option maxHeartbeats 4000000 in
set_option maxRecDepth 20000 in
theorem tb_B_setFor_27 {G : GG} (v0 : Nat) (h : Hp) : T G M_B_setFor 5 cI 27 [(0, .ref v0)] [] h (b_B_setFor_27 v0 h) := by
  unfold b_B_setFor_27
  refine q_aload_n (pc := 27) (dq D_B_setFor_0_ok 15 rfl) rfl 0 rfl ?_
  refine q_ic2 (pc := 28) (dq D_B_setFor_0_ok 16 rfl) ?_
  refine r_invI (Mc := M_B_refuse) (pc := 29) (ci := 0) (rest := []) 0 1 [.int 2] (dq D_B_setFor_0_ok 17 rfl) rfl rfl lc_B_refuse lv_B_refuse_ ml_B_87 rfl rfl rfl rfl (t_B_refuse v0 (2 : Int32) h) (fun r2 h1 => ?_)
  exact r_reti (pc := 32) (dq D_B_setFor_0_ok 18 rfl) rfl
noncomputable def f_B_setFor (v0 : Nat) (v1 : Int32) (v2 : Int32) (v3 : Int32) (h : Hp) : Option (Int32 × Hp) := gd (hS h v0 = some (.inl 0)) (bd (f_B_hasWheelOfFeast v0 v1 v2 h) fun r2 h1 => if r2 = 0 then (gd (hS h1 v0 = some (.inl 0)) (bd (f_B_refuse v0 (1 : Int32) h1) fun r10 h9 => some (r10, h9))) else (if v3 < 1 then (b_B_setFor_27 v0 h1) else (if v3 ≤ 5000 then (gd (hS h1 v0 = some (.inl 0)) (bd (f_B_daysToCome v0 h1) fun r4 h3 => gd (hS h3 r4 = some (.inl 5)) (bd (f_C_settingFor r4 v1 v2 v3 h3) fun r6 h5 => gd (hS h5 v0 = some (.inl 0)) (bd (f_B_grant v0 r6 h5) fun r8 h7 => some (r8, h7))))) else (b_B_setFor_27 v0 h1))))
set_option maxHeartbeats 4000000 in
set_option maxRecDepth 20000 in
theorem t_B_setFor {G : GG} (v0 : Nat) (v1 : Int32) (v2 : Int32) (v3 : Int32) (h : Hp) : Mt G M_B_setFor 5 [.ref v0, .int v1, .int v2, .int v3] cI h (f_B_setFor v0 v1 v2 v3 h) := by
  refine Mt.ofF (by decide +kernel) rfl (Rt.i rfl rfl) ?_
  show T G M_B_setFor 5 cI 0 [(0, .ref v0), (1, .int v1), (2, .int v2), (3, .int v3)] [] h _
  unfold f_B_setFor
  refine q_aload_n (pc := 0) (dq D_B_setFor_0_ok 0 rfl) rfl 0 rfl ?_
  refine q_iload_n (pc := 1) (dq D_B_setFor_0_ok 1 rfl) rfl 1 rfl ?_
  refine q_iload_n (pc := 2) (dq D_B_setFor_0_ok 2 rfl) rfl 2 rfl ?_
  refine r_invI (Mc := M_B_hasWheelOfFeast) (pc := 3) (ci := 0) (rest := []) 1 2 [.int v1, .int v2] (dq D_B_setFor_0_ok 3 rfl) rfl rfl lc_B_hasWheelOfFeast lv_B_hasWheelOfFeast_ ml_B_213 rfl rfl rfl rfl (t_B_hasWheelOfFeast v0 v1 v2 h) (fun r2 h1 => ?_)
  refine p_if_ne (pc := 6) 15 (dq D_B_setFor_0_ok 4 rfl) rfl ?_ ?_
  · refine q_iload_n (pc := 15) (dq D_B_setFor_0_ok 9 rfl) rfl 3 rfl ?_
    refine q_ic1 (pc := 16) (dq D_B_setFor_0_ok 10 rfl) ?_
    refine q_ic_lt (pc := 17) 27 (dq D_B_setFor_0_ok 11 rfl) rfl ?_ ?_
    · exact T.lsub [0] rfl (tb_B_setFor_27 v0 h1)
    · refine q_iload_n (pc := 20) (dq D_B_setFor_0_ok 12 rfl) rfl 3 rfl ?_
      refine q_sipush (pc := 21) (v := 5000) (dq D_B_setFor_0_ok 13 rfl) (by decide) ?_
      refine q_ic_le (pc := 24) 33 (dq D_B_setFor_0_ok 14 rfl) rfl ?_ ?_
      · refine q_aload_n (pc := 33) (dq D_B_setFor_0_ok 19 rfl) rfl 0 rfl ?_
        refine q_aload_n (pc := 34) (dq D_B_setFor_0_ok 20 rfl) rfl 0 rfl ?_
        refine r_invA (Mc := M_B_daysToCome) (pc := 35) (ci := 0) (rest := [.ref v0]) 4 0 [] (dq D_B_setFor_0_ok 21 rfl) rfl rfl lc_B_daysToCome lv_B_daysToCome_ ml_B_192 rfl rfl rfl rfl (t_B_daysToCome v0 h1) (fun r4 h3 => ?_)
        refine q_iload_n (pc := 38) (dq D_B_setFor_0_ok 22 rfl) rfl 1 rfl ?_
        refine q_iload_n (pc := 39) (dq D_B_setFor_0_ok 23 rfl) rfl 2 rfl ?_
        refine q_iload_n (pc := 40) (dq D_B_setFor_0_ok 24 rfl) rfl 3 rfl ?_
        refine r_invI (Mc := M_C_settingFor) (pc := 41) (ci := 5) (rest := [.ref v0]) 3 3 [.int v1, .int v2, .int v3] (dq D_B_setFor_0_ok 25 rfl) rfl rfl lc_C_settingFor lv_C_settingFor_ ml_B_217 rfl rfl rfl rfl (t_C_settingFor r4 v1 v2 v3 h3) (fun r6 h5 => ?_)
        refine r_invI (Mc := M_B_grant) (pc := 44) (ci := 0) (rest := []) 0 1 [.int r6] (dq D_B_setFor_0_ok 26 rfl) rfl rfl lc_B_grant lv_B_grant_ ml_B_109 rfl rfl rfl rfl (t_B_grant v0 r6 h5) (fun r8 h7 => ?_)
        exact r_reti (pc := 47) (dq D_B_setFor_0_ok 27 rfl) rfl
      · exact T.lsub [0] rfl (tb_B_setFor_27 v0 h1)
  · refine q_aload_n (pc := 9) (dq D_B_setFor_0_ok 5 rfl) rfl 0 rfl ?_
    refine q_ic1 (pc := 10) (dq D_B_setFor_0_ok 6 rfl) ?_
    refine r_invI (Mc := M_B_refuse) (pc := 11) (ci := 0) (rest := []) 0 1 [.int 1] (dq D_B_setFor_0_ok 7 rfl) rfl rfl lc_B_refuse lv_B_refuse_ ml_B_87 rfl rfl rfl rfl (t_B_refuse v0 (1 : Int32) h1) (fun r10 h9 => ?_)
    exact r_reti (pc := 14) (dq D_B_setFor_0_ok 8 rfl) rfl
noncomputable def f_W_tellLike (v0 : Nat) (v1 : Nat) (h : Hp) : Option (Unit × Hp) := gd (hS h v1 = some (.inl 3)) (lt (hI h v1 0) fun x1 => gd (hS h v1 = some (.inl 3)) (lt (hI h v1 1) fun x2 => gd (hS h v1 = some (.inl 3)) (lt (hI h v1 2) fun x3 => gd (hS h v1 = some (.inl 3)) (lt (hI h v1 3) fun x4 => gd (hS h v0 = some (.inl 3)) (bd (f_W_tell v0 x1 x2 x3 x4 h) fun _ h5 => gd (hS h5 v1 = some (.inl 3)) (lt (hI h5 v1 4) fun x7 => gd (hS h5 v0 = some (.inl 3)) (lt (uI h5 v0 4 x7) fun h8 => gd (hS h8 v1 = some (.inl 3)) (lt (hL h8 v1 5) fun x9 => gd (hS h8 v0 = some (.inl 3)) (lt (uL h8 v0 5 x9) fun h10 => some ((), h10))))))))))
set_option maxHeartbeats 4000000 in
set_option maxRecDepth 20000 in
theorem t_W_tellLike {G : GG} (v0 : Nat) (v1 : Nat) (h : Hp) : Mt G M_W_tellLike 1 [.ref v0, .ref v1] cU h (f_W_tellLike v0 v1 h) := by
  refine Mt.ofF (by decide +kernel) rfl (Rt.v rfl rfl) ?_
  show T G M_W_tellLike 1 cU 0 [(0, .ref v0), (1, .ref v1)] [] h _
  unfold f_W_tellLike
  refine q_aload_n (pc := 0) (dq D_W_tellLike_0_ok 0 rfl) rfl 0 rfl ?_
  refine q_aload_n (pc := 1) (dq D_W_tellLike_0_ok 1 rfl) rfl 1 rfl ?_
  refine r_getI (pc := 2) (dq D_W_tellLike_0_ok 2 rfl) fa_W_9 rfl (fun x1 => ?_)
  refine q_aload_n (pc := 5) (dq D_W_tellLike_0_ok 3 rfl) rfl 1 rfl ?_
  refine r_getI (pc := 6) (dq D_W_tellLike_0_ok 4 rfl) fa_W_15 rfl (fun x2 => ?_)
  refine q_aload_n (pc := 9) (dq D_W_tellLike_0_ok 5 rfl) rfl 1 rfl ?_
  refine r_getI (pc := 10) (dq D_W_tellLike_0_ok 6 rfl) fa_W_18 rfl (fun x3 => ?_)
  refine q_aload_n (pc := 13) (dq D_W_tellLike_0_ok 7 rfl) rfl 1 rfl ?_
  refine r_getI (pc := 14) (dq D_W_tellLike_0_ok 8 rfl) fa_W_21 rfl (fun x4 => ?_)
  refine r_invU (Mc := M_W_tell) (pc := 17) (ci := 3) (rest := []) 0 4 [.int x1, .int x2, .int x3, .int x4] (dq D_W_tellLike_0_ok 9 rfl) rfl rfl lc_W_tell lv_W_tell_ ml_W_31 rfl rfl rfl rfl (t_W_tell v0 x1 x2 x3 x4 h) (fun _ h5 => ?_)
  refine q_aload_n (pc := 20) (dq D_W_tellLike_0_ok 10 rfl) rfl 0 rfl ?_
  refine q_aload_n (pc := 21) (dq D_W_tellLike_0_ok 11 rfl) rfl 1 rfl ?_
  refine r_getI (pc := 22) (dq D_W_tellLike_0_ok 12 rfl) fa_W_24 rfl (fun x7 => ?_)
  refine r_putI (pc := 25) (dq D_W_tellLike_0_ok 13 rfl) fp_W_24 rfl rfl (fun h8 => ?_)
  refine q_aload_n (pc := 28) (dq D_W_tellLike_0_ok 14 rfl) rfl 0 rfl ?_
  refine q_aload_n (pc := 29) (dq D_W_tellLike_0_ok 15 rfl) rfl 1 rfl ?_
  refine r_getL (pc := 30) (dq D_W_tellLike_0_ok 16 rfl) fa_W_27 rfl (fun x9 => ?_)
  refine r_putL (pc := 33) (dq D_W_tellLike_0_ok 17 rfl) fp_W_27 rfl rfl (fun h10 => ?_)
  exact r_retu (pc := 36) (dq D_W_tellLike_0_ok 18 rfl) rfl
noncomputable def b_C_tryBys_129 (k35 : (Nat × Int32 × Int32 × Int32 × Int32) → Hp → Option (Unit × Hp)) (v0 : Nat) (v1 : Int32) (v2 : Int32) (v3 : Int32) (v4 : Int32) (h : Hp) : Option (Unit × Hp) := k35 (v0, v1, v2, v3, v4 + 1) h
set_option maxHeartbeats 4000000 in
set_option maxRecDepth 20000 in
theorem tb_C_tryBys_129 {G : GG} {k35 : (Nat × Int32 × Int32 × Int32 × Int32) → Hp → Option (Unit × Hp)} (hk35 : ∀ s h, T G M_C_tryBys 6 cU 35 [(0, .ref s.1), (1, .int s.2.1), (2, .int s.2.2.1), (3, .int s.2.2.2.1), (4, .int s.2.2.2.2)] [] h (k35 s h)) (v0 : Nat) (v1 : Int32) (v2 : Int32) (v3 : Int32) (v4 : Int32) (h : Hp) : T G M_C_tryBys 6 cU 129 [(0, .ref v0), (1, .int v1), (2, .int v2), (3, .int v3), (4, .int v4)] [] h (b_C_tryBys_129 k35 v0 v1 v2 v3 v4 h) := by
  unfold b_C_tryBys_129
  refine q_iinc (pc := 129) (v := (1)) (ls' := [(4, .int (v4 + 1)), (0, .ref v0), (1, .int v1), (2, .int v2), (3, .int v3)]) (dq D_C_tryBys_1_ok 10 rfl) 4 rfl (by decide) rfl rfl ?_
  refine q_goto (pc := 132) 35 (dq D_C_tryBys_1_ok 11 rfl) rfl ?_
  exact T.lsub [1, 2, 3, 4, 0] rfl (hk35 (v0, v1, v2, v3, v4 + 1) h)
noncomputable def b_C_tryBys_35 (k35 : (Nat × Int32 × Int32 × Int32 × Int32) → Hp → Option (Unit × Hp)) (v0 : Nat) (v1 : Int32) (v2 : Int32) (v3 : Int32) (v4 : Int32) (h : Hp) : Option (Unit × Hp) := if 9 < v4 then (some ((), h)) else (gd (hS h v0 = some (.inl 5)) (bR (hR h v0 1) fun x1 => gd (hS h x1 = some (.inl 3)) (lt (hI h x1 1) fun x2 => if x2 ≤ v4 then (some ((), h)) else (gd (hS h v0 = some (.inl 5)) (bR (hR h v0 1) fun x3 => gd (hS h x3 = some (.inl 3)) (lt (uI h x3 2 v4) fun h4 => gd (hS h4 v0 = some (.inl 5)) (bR (hR h4 v0 0) fun x5 => gd (ai h4 x5 5 v1) (bR (hR h4 x5 v1.toNatClampNeg) fun x6 => gd (hS h4 v0 = some (.inl 5)) (bR (hR h4 v0 1) fun x7 => gd (hS h4 v0 = some (.inl 5)) (bR (hR h4 v0 6) fun x8 => gd (ai h4 x8 0 (3 + v1)) (lt (hI h4 x8 (3 + v1).toNatClampNeg) fun x9 => gd (hS h4 v0 = some (.inl 5)) (bR (hR h4 v0 6) fun x10 => gd (ai h4 x10 0 0) (lt (hI h4 x10 (0 : Int32).toNatClampNeg) fun x11 => gd (hS h4 v0 = some (.inl 5)) (bR (hR h4 v0 6) fun x12 => gd (ai h4 x12 0 1) (lt (hI h4 x12 (1 : Int32).toNatClampNeg) fun x13 => gd (hS h4 x6 = some (.inl 6)) (bd (f_U_follow x6 x7 x9 x11 x13 h4) fun _ h14 => gd (hS h14 v0 = some (.inl 5)) (bd (f_C_feastFrom v0 v2 (1 : Int32) (v3 - 1) h14) fun r17 h16 => if r17 = ((-2)) then (b_C_tryBys_129 k35 v0 v1 v2 v3 v4 h16) else (gd (hS h16 v0 = some (.inl 5)) (lt (uI h16 v0 7 v4) fun h18 => gd (hS h18 v0 = some (.inl 5)) (lt (uI h18 v0 8 r17) fun h19 => b_C_tryBys_129 k35 v0 v1 v2 r17 v4 h19))))))))))))))))))))
set_option maxHeartbeats 4000000 in
set_option maxRecDepth 20000 in
theorem tb_C_tryBys_35 {G : GG} {k35 : (Nat × Int32 × Int32 × Int32 × Int32) → Hp → Option (Unit × Hp)} (hk35 : ∀ s h, T G M_C_tryBys 6 cU 35 [(0, .ref s.1), (1, .int s.2.1), (2, .int s.2.2.1), (3, .int s.2.2.2.1), (4, .int s.2.2.2.2)] [] h (k35 s h)) (v0 : Nat) (v1 : Int32) (v2 : Int32) (v3 : Int32) (v4 : Int32) (h : Hp) : T G M_C_tryBys 6 cU 35 [(0, .ref v0), (1, .int v1), (2, .int v2), (3, .int v3), (4, .int v4)] [] h (b_C_tryBys_35 k35 v0 v1 v2 v3 v4 h) := by
  unfold b_C_tryBys_35
  refine q_iload (pc := 35) (dq D_C_tryBys_0_ok 18 rfl) 4 rfl ?_
  refine q_bipush (pc := 37) (v := 9) (dq D_C_tryBys_0_ok 19 rfl) (by decide) ?_
  refine q_ic_gt (pc := 39) 135 (dq D_C_tryBys_0_ok 20 rfl) rfl ?_ ?_
  · exact r_retu (pc := 135) (dq D_C_tryBys_1_ok 12 rfl) rfl
  · refine q_iload (pc := 42) (dq D_C_tryBys_0_ok 21 rfl) 4 rfl ?_
    refine q_aload_n (pc := 44) (dq D_C_tryBys_0_ok 22 rfl) rfl 0 rfl ?_
    refine q_getR (pc := 45) (dq D_C_tryBys_0_ok 23 rfl) fa_C_20 rfl (fun x1 => ?_)
    refine r_getI (pc := 48) (dq D_C_tryBys_0_ok 24 rfl) fa_C_97 rfl (fun x2 => ?_)
    refine q_ic_ge (pc := 51) 135 (dq D_C_tryBys_0_ok 25 rfl) rfl ?_ ?_
    · exact r_retu (pc := 135) (dq D_C_tryBys_1_ok 12 rfl) rfl
    · refine q_aload_n (pc := 54) (dq D_C_tryBys_0_ok 26 rfl) rfl 0 rfl ?_
      refine q_getR (pc := 55) (dq D_C_tryBys_0_ok 27 rfl) fa_C_20 rfl (fun x3 => ?_)
      refine q_iload (pc := 58) (dq D_C_tryBys_0_ok 28 rfl) 4 rfl ?_
      refine r_putI (pc := 60) (dq D_C_tryBys_0_ok 29 rfl) fp_C_108 rfl rfl (fun h4 => ?_)
      refine q_aload_n (pc := 63) (dq D_C_tryBys_0_ok 30 rfl) rfl 0 rfl ?_
      refine q_getR (pc := 64) (dq D_C_tryBys_0_ok 31 rfl) fa_C_11 rfl (fun x5 => ?_)
      refine q_iload_n (pc := 67) (dq D_C_tryBys_0_ok 32 rfl) rfl 1 rfl ?_
      refine r_aald (pc := 68) 5 (dq D_C_tryBys_0_ok 33 rfl) rfl rfl (fun _ => rfl) (fun x6 => ?_)
      refine q_aload_n (pc := 69) (dq D_C_tryBys_0_ok 34 rfl) rfl 0 rfl ?_
      refine q_getR (pc := 70) (dq D_C_tryBys_0_ok 35 rfl) fa_C_20 rfl (fun x7 => ?_)
      refine q_aload_n (pc := 73) (dq D_C_tryBys_0_ok 36 rfl) rfl 0 rfl ?_
      refine q_getR (pc := 74) (dq D_C_tryBys_0_ok 37 rfl) fa_C_49 rfl (fun x8 => ?_)
      refine q_ic3 (pc := 77) (dq D_C_tryBys_0_ok 38 rfl) ?_
      refine q_iload_n (pc := 78) (dq D_C_tryBys_0_ok 39 rfl) rfl 1 rfl ?_
      refine q_iadd (pc := 79) (dq D_C_tryBys_0_ok 40 rfl) ?_
      refine r_iald (pc := 80) (dq D_C_tryBys_0_ok 41 rfl) (fun x9 => ?_)
      refine q_aload_n (pc := 81) (dq D_C_tryBys_0_ok 42 rfl) rfl 0 rfl ?_
      refine q_getR (pc := 82) (dq D_C_tryBys_0_ok 43 rfl) fa_C_49 rfl (fun x10 => ?_)
      refine q_ic0 (pc := 85) (dq D_C_tryBys_0_ok 44 rfl) ?_
      refine r_iald (pc := 86) (dq D_C_tryBys_0_ok 45 rfl) (fun x11 => ?_)
      refine q_aload_n (pc := 87) (dq D_C_tryBys_0_ok 46 rfl) rfl 0 rfl ?_
      refine q_getR (pc := 88) (dq D_C_tryBys_0_ok 47 rfl) fa_C_49 rfl (fun x12 => ?_)
      refine q_ic1 (pc := 91) (dq D_C_tryBys_0_ok 48 rfl) ?_
      refine r_iald (pc := 92) (dq D_C_tryBys_0_ok 49 rfl) (fun x13 => ?_)
      refine r_invU (Mc := M_U_follow) (pc := 93) (ci := 6) (rest := []) 1 4 [.ref x7, .int x9, .int x11, .int x13] (dq D_C_tryBys_0_ok 50 rfl) rfl rfl lc_U_follow lv_U_follow_ ml_C_56 rfl rfl rfl rfl (t_U_follow x6 x7 x9 x11 x13 h4) (fun _ h14 => ?_)
      refine q_aload_n (pc := 96) (dq D_C_tryBys_0_ok 51 rfl) rfl 0 rfl ?_
      refine q_iload_n (pc := 97) (dq D_C_tryBys_0_ok 52 rfl) rfl 2 rfl ?_
      refine q_ic1 (pc := 98) (dq D_C_tryBys_0_ok 53 rfl) ?_
      refine q_iload_n (pc := 99) (dq D_C_tryBys_0_ok 54 rfl) rfl 3 rfl ?_
      refine q_ic1 (pc := 100) (dq D_C_tryBys_0_ok 55 rfl) ?_
      refine q_isub (pc := 101) (dq D_C_tryBys_0_ok 56 rfl) ?_
      refine r_invI (Mc := M_C_feastFrom) (pc := 102) (ci := 5) (rest := []) 5 3 [.int v2, .int 1, .int (v3 - 1)] (dq D_C_tryBys_0_ok 57 rfl) rfl rfl lc_C_feastFrom lv_C_feastFrom_ ml_C_82 rfl rfl rfl rfl (t_C_feastFrom v0 v2 (1 : Int32) (v3 - 1) h14) (fun r17 h16 => ?_)
      refine q_istore (pc := 105) (ls' := [(5, .int r17), (0, .ref v0), (1, .int v1), (2, .int v2), (3, .int v3), (4, .int v4)]) (dq D_C_tryBys_0_ok 58 rfl) rfl rfl ?_
      refine q_iload (pc := 107) (dq D_C_tryBys_0_ok 59 rfl) 0 rfl ?_
      refine q_bipush (pc := 109) (v := (-2)) (dq D_C_tryBys_1_ok 0 rfl) (by decide) ?_
      refine q_ic_eq (pc := 111) 129 (dq D_C_tryBys_1_ok 1 rfl) rfl ?_ ?_
      · exact T.lsub [1, 2, 3, 4, 5] rfl (tb_C_tryBys_129 hk35 v0 v1 v2 v3 v4 h16)
      · refine q_aload_n (pc := 114) (dq D_C_tryBys_1_ok 2 rfl) rfl 1 rfl ?_
        refine q_iload (pc := 115) (dq D_C_tryBys_1_ok 3 rfl) 5 rfl ?_
        refine r_putI (pc := 117) (dq D_C_tryBys_1_ok 4 rfl) fp_C_130 rfl rfl (fun h18 => ?_)
        refine q_aload_n (pc := 120) (dq D_C_tryBys_1_ok 5 rfl) rfl 1 rfl ?_
        refine q_iload (pc := 121) (dq D_C_tryBys_1_ok 6 rfl) 0 rfl ?_
        refine r_putI (pc := 123) (dq D_C_tryBys_1_ok 7 rfl) fp_C_133 rfl rfl (fun h19 => ?_)
        refine q_iload (pc := 126) (dq D_C_tryBys_1_ok 8 rfl) 0 rfl ?_
        refine q_istore_n (pc := 128) (ls' := [(3, .int r17), (5, .int r17), (0, .ref v0), (1, .int v1), (2, .int v2), (4, .int v4)]) (dq D_C_tryBys_1_ok 9 rfl) rfl rfl rfl ?_
        exact T.lsub [2, 3, 4, 0, 5] rfl (tb_C_tryBys_129 hk35 v0 v1 v2 r17 v4 h19)
noncomputable def l_C_tryBys_35 : Nat → (Nat × Int32 × Int32 × Int32 × Int32) → Hp → Option (Unit × Hp) := lp (fun k35 s h => b_C_tryBys_35 k35 s.1 s.2.1 s.2.2.1 s.2.2.2.1 s.2.2.2.2 h)
set_option maxHeartbeats 4000000 in
set_option maxRecDepth 20000 in
theorem tl_C_tryBys_35 {G : GG} (n : Nat) (s : Nat × Int32 × Int32 × Int32 × Int32) (h : Hp) : T G M_C_tryBys 6 cU 35 [(0, .ref s.1), (1, .int s.2.1), (2, .int s.2.2.1), (3, .int s.2.2.2.1), (4, .int s.2.2.2.2)] [] h (l_C_tryBys_35 n s h) :=
  T.loop (lsOf := fun s => [(0, .ref s.1), (1, .int s.2.1), (2, .int s.2.2.1), (3, .int s.2.2.2.1), (4, .int s.2.2.2.2)]) (fun k35 hk35 s h => tb_C_tryBys_35 hk35 s.1 s.2.1 s.2.2.1 s.2.2.2.1 s.2.2.2.2 h) n s h
noncomputable def f_C_tryBys (v0 : Nat) (v1 : Int32) (v2 : Int32) (h : Hp) : Option (Unit × Hp) := gd (hS h v0 = some (.inl 5)) (lt (uI h v0 7 ((-2))) fun h1 => gd (hS h1 v0 = some (.inl 5)) (lt (uI h1 v0 8 ((-2))) fun h2 => lt (5001 : Int32) fun y3 => gd (hS h2 v0 = some (.inl 5)) (bR (hR h2 v0 1) fun x4 => gd (hS h2 v0 = some (.inl 5)) (bR (hR h2 v0 5) fun x5 => gd (hS h2 x5 = some (.inl 2)) (bR (hR h2 x5 3) fun x6 => gd (ai h2 x6 4 v1) (bR (hR h2 x6 v1.toNatClampNeg) fun x7 => gd (hS h2 x4 = some (.inl 3)) (bd (f_W_tellLike x4 x7 h2) fun _ h8 => lt (1 : Int32) fun y10 => l_C_tryBys_35 FU (v0, v1, v2, y3, y10) h8)))))))
set_option maxHeartbeats 4000000 in
set_option maxRecDepth 20000 in
theorem t_C_tryBys {G : GG} (v0 : Nat) (v1 : Int32) (v2 : Int32) (h : Hp) : Mt G M_C_tryBys 6 [.ref v0, .int v1, .int v2] cU h (f_C_tryBys v0 v1 v2 h) := by
  refine Mt.ofF (by decide +kernel) rfl (Rt.v rfl rfl) ?_
  show T G M_C_tryBys 6 cU 0 [(0, .ref v0), (1, .int v1), (2, .int v2)] [] h _
  unfold f_C_tryBys
  refine q_aload_n (pc := 0) (dq D_C_tryBys_0_ok 0 rfl) rfl 0 rfl ?_
  refine q_bipush (pc := 1) (v := (-2)) (dq D_C_tryBys_0_ok 1 rfl) (by decide) ?_
  refine r_putI (pc := 3) (dq D_C_tryBys_0_ok 2 rfl) fp_C_130 rfl rfl (fun h1 => ?_)
  refine q_aload_n (pc := 6) (dq D_C_tryBys_0_ok 3 rfl) rfl 0 rfl ?_
  refine q_bipush (pc := 7) (v := (-2)) (dq D_C_tryBys_0_ok 4 rfl) (by decide) ?_
  refine r_putI (pc := 9) (dq D_C_tryBys_0_ok 5 rfl) fp_C_133 rfl rfl (fun h2 => ?_)
  refine q_sipush (pc := 12) (v := 5001) (dq D_C_tryBys_0_ok 6 rfl) (by decide) ?_
  refine r_nmI (fun y3 => ?_)
  refine q_istore_n (pc := 15) (ls' := [(3, .int y3), (0, .ref v0), (1, .int v1), (2, .int v2)]) (dq D_C_tryBys_0_ok 7 rfl) rfl rfl rfl ?_
  refine q_aload_n (pc := 16) (dq D_C_tryBys_0_ok 8 rfl) rfl 1 rfl ?_
  refine q_getR (pc := 17) (dq D_C_tryBys_0_ok 9 rfl) fa_C_20 rfl (fun x4 => ?_)
  refine q_aload_n (pc := 20) (dq D_C_tryBys_0_ok 10 rfl) rfl 1 rfl ?_
  refine q_getR (pc := 21) (dq D_C_tryBys_0_ok 11 rfl) fa_C_45 rfl (fun x5 => ?_)
  refine q_getR (pc := 24) (dq D_C_tryBys_0_ok 12 rfl) fa_C_52 rfl (fun x6 => ?_)
  refine q_iload_n (pc := 27) (dq D_C_tryBys_0_ok 13 rfl) rfl 2 rfl ?_
  refine r_aald (pc := 28) 4 (dq D_C_tryBys_0_ok 14 rfl) rfl rfl (fun _ => rfl) (fun x7 => ?_)
  refine r_invU (Mc := M_W_tellLike) (pc := 29) (ci := 3) (rest := []) 1 1 [.ref x7] (dq D_C_tryBys_0_ok 15 rfl) rfl rfl lc_W_tellLike lv_W_tellLike_ ml_C_136 rfl rfl rfl rfl (t_W_tellLike x4 x7 h2) (fun _ h8 => ?_)
  refine q_ic1 (pc := 32) (dq D_C_tryBys_0_ok 16 rfl) ?_
  refine r_nmI (fun y10 => ?_)
  refine q_istore (pc := 33) (ls' := [(4, .int y10), (3, .int y3), (0, .ref v0), (1, .int v1), (2, .int v2)]) (dq D_C_tryBys_0_ok 17 rfl) rfl rfl ?_
  exact T.lsub [2, 3, 4, 1, 0] rfl (tl_C_tryBys_35 FU (v0, v1, v2, y3, y10) h8)
noncomputable def f_B_byFor (v0 : Nat) (v1 : Int32) (v2 : Int32) (h : Hp) : Option (Int32 × Hp) := gd (hS h v0 = some (.inl 0)) (bd (f_B_hasWheelOfFeast v0 v1 v2 h) fun r2 h1 => if r2 = 0 then (gd (hS h1 v0 = some (.inl 0)) (bd (f_B_refuse v0 (1 : Int32) h1) fun r11 h10 => some (r11, h10))) else (gd (hS h1 v0 = some (.inl 0)) (bd (f_B_daysToCome v0 h1) fun r4 h3 => gd (hS h3 r4 = some (.inl 5)) (bd (f_C_tryBys r4 v1 v2 h3) fun _ h5 => gd (hS h5 r4 = some (.inl 5)) (lt (hI h5 r4 7) fun x7 => gd (hS h5 v0 = some (.inl 0)) (bd (f_B_grant v0 x7 h5) fun r9 h8 => some (r9, h8)))))))
set_option maxHeartbeats 4000000 in
set_option maxRecDepth 20000 in
theorem t_B_byFor {G : GG} (v0 : Nat) (v1 : Int32) (v2 : Int32) (h : Hp) : Mt G M_B_byFor 7 [.ref v0, .int v1, .int v2] cI h (f_B_byFor v0 v1 v2 h) := by
  refine Mt.ofF (by decide +kernel) rfl (Rt.i rfl rfl) ?_
  show T G M_B_byFor 7 cI 0 [(0, .ref v0), (1, .int v1), (2, .int v2)] [] h _
  unfold f_B_byFor
  refine q_aload_n (pc := 0) (dq D_B_byFor_0_ok 0 rfl) rfl 0 rfl ?_
  refine q_iload_n (pc := 1) (dq D_B_byFor_0_ok 1 rfl) rfl 1 rfl ?_
  refine q_iload_n (pc := 2) (dq D_B_byFor_0_ok 2 rfl) rfl 2 rfl ?_
  refine r_invI (Mc := M_B_hasWheelOfFeast) (pc := 3) (ci := 0) (rest := []) 1 2 [.int v1, .int v2] (dq D_B_byFor_0_ok 3 rfl) rfl rfl lc_B_hasWheelOfFeast lv_B_hasWheelOfFeast_ ml_B_213 rfl rfl rfl rfl (t_B_hasWheelOfFeast v0 v1 v2 h) (fun r2 h1 => ?_)
  refine p_if_ne (pc := 6) 15 (dq D_B_byFor_0_ok 4 rfl) rfl ?_ ?_
  · refine q_aload_n (pc := 15) (dq D_B_byFor_0_ok 9 rfl) rfl 0 rfl ?_
    refine r_invA (Mc := M_B_daysToCome) (pc := 16) (ci := 0) (rest := []) 4 0 [] (dq D_B_byFor_0_ok 10 rfl) rfl rfl lc_B_daysToCome lv_B_daysToCome_ ml_B_192 rfl rfl rfl rfl (t_B_daysToCome v0 h1) (fun r4 h3 => ?_)
    refine q_astore_n (pc := 19) (ls' := [(3, .ref r4), (0, .ref v0), (1, .int v1), (2, .int v2)]) (dq D_B_byFor_0_ok 11 rfl) rfl rfl rfl ?_
    refine q_aload_n (pc := 20) (dq D_B_byFor_0_ok 12 rfl) rfl 0 rfl ?_
    refine q_iload_n (pc := 21) (dq D_B_byFor_0_ok 13 rfl) rfl 2 rfl ?_
    refine q_iload_n (pc := 22) (dq D_B_byFor_0_ok 14 rfl) rfl 3 rfl ?_
    refine r_invU (Mc := M_C_tryBys) (pc := 23) (ci := 5) (rest := []) 6 2 [.int v1, .int v2] (dq D_B_byFor_0_ok 15 rfl) rfl rfl lc_C_tryBys lv_C_tryBys_ ml_B_220 rfl rfl rfl rfl (t_C_tryBys r4 v1 v2 h3) (fun _ h5 => ?_)
    refine q_aload_n (pc := 26) (dq D_B_byFor_0_ok 16 rfl) rfl 1 rfl ?_
    refine q_aload_n (pc := 27) (dq D_B_byFor_0_ok 17 rfl) rfl 0 rfl ?_
    refine r_getI (pc := 28) (dq D_B_byFor_0_ok 18 rfl) fa_B_224 rfl (fun x7 => ?_)
    refine r_invI (Mc := M_B_grant) (pc := 31) (ci := 0) (rest := []) 0 1 [.int x7] (dq D_B_byFor_0_ok 19 rfl) rfl rfl lc_B_grant lv_B_grant_ ml_B_109 rfl rfl rfl rfl (t_B_grant v0 x7 h5) (fun r9 h8 => ?_)
    exact r_reti (pc := 34) (dq D_B_byFor_0_ok 20 rfl) rfl
  · refine q_aload_n (pc := 9) (dq D_B_byFor_0_ok 5 rfl) rfl 0 rfl ?_
    refine q_ic1 (pc := 10) (dq D_B_byFor_0_ok 6 rfl) ?_
    refine r_invI (Mc := M_B_refuse) (pc := 11) (ci := 0) (rest := []) 0 1 [.int 1] (dq D_B_byFor_0_ok 7 rfl) rfl rfl lc_B_refuse lv_B_refuse_ ml_B_87 rfl rfl rfl rfl (t_B_refuse v0 (1 : Int32) h1) (fun r11 h10 => ?_)
    exact r_reti (pc := 14) (dq D_B_byFor_0_ok 8 rfl) rfl
noncomputable def f_B_byIn (v0 : Nat) (v1 : Int32) (v2 : Int32) (h : Hp) : Option (Int32 × Hp) := gd (hS h v0 = some (.inl 0)) (bd (f_B_hasWheelOfFeast v0 v1 v2 h) fun r2 h1 => if r2 = 0 then (gd (hS h1 v0 = some (.inl 0)) (bd (f_B_refuse v0 (1 : Int32) h1) fun r11 h10 => some (r11, h10))) else (gd (hS h1 v0 = some (.inl 0)) (bd (f_B_daysToCome v0 h1) fun r4 h3 => gd (hS h3 r4 = some (.inl 5)) (bd (f_C_tryBys r4 v1 v2 h3) fun _ h5 => gd (hS h5 r4 = some (.inl 5)) (lt (hI h5 r4 8) fun x7 => gd (hS h5 v0 = some (.inl 0)) (bd (f_B_grant v0 x7 h5) fun r9 h8 => some (r9, h8)))))))
set_option maxHeartbeats 4000000 in
set_option maxRecDepth 20000 in
theorem t_B_byIn {G : GG} (v0 : Nat) (v1 : Int32) (v2 : Int32) (h : Hp) : Mt G M_B_byIn 7 [.ref v0, .int v1, .int v2] cI h (f_B_byIn v0 v1 v2 h) := by
  refine Mt.ofF (by decide +kernel) rfl (Rt.i rfl rfl) ?_
  show T G M_B_byIn 7 cI 0 [(0, .ref v0), (1, .int v1), (2, .int v2)] [] h _
  unfold f_B_byIn
  refine q_aload_n (pc := 0) (dq D_B_byIn_0_ok 0 rfl) rfl 0 rfl ?_
  refine q_iload_n (pc := 1) (dq D_B_byIn_0_ok 1 rfl) rfl 1 rfl ?_
  refine q_iload_n (pc := 2) (dq D_B_byIn_0_ok 2 rfl) rfl 2 rfl ?_
  refine r_invI (Mc := M_B_hasWheelOfFeast) (pc := 3) (ci := 0) (rest := []) 1 2 [.int v1, .int v2] (dq D_B_byIn_0_ok 3 rfl) rfl rfl lc_B_hasWheelOfFeast lv_B_hasWheelOfFeast_ ml_B_213 rfl rfl rfl rfl (t_B_hasWheelOfFeast v0 v1 v2 h) (fun r2 h1 => ?_)
  refine p_if_ne (pc := 6) 15 (dq D_B_byIn_0_ok 4 rfl) rfl ?_ ?_
  · refine q_aload_n (pc := 15) (dq D_B_byIn_0_ok 9 rfl) rfl 0 rfl ?_
    refine r_invA (Mc := M_B_daysToCome) (pc := 16) (ci := 0) (rest := []) 4 0 [] (dq D_B_byIn_0_ok 10 rfl) rfl rfl lc_B_daysToCome lv_B_daysToCome_ ml_B_192 rfl rfl rfl rfl (t_B_daysToCome v0 h1) (fun r4 h3 => ?_)
    refine q_astore_n (pc := 19) (ls' := [(3, .ref r4), (0, .ref v0), (1, .int v1), (2, .int v2)]) (dq D_B_byIn_0_ok 11 rfl) rfl rfl rfl ?_
    refine q_aload_n (pc := 20) (dq D_B_byIn_0_ok 12 rfl) rfl 0 rfl ?_
    refine q_iload_n (pc := 21) (dq D_B_byIn_0_ok 13 rfl) rfl 2 rfl ?_
    refine q_iload_n (pc := 22) (dq D_B_byIn_0_ok 14 rfl) rfl 3 rfl ?_
    refine r_invU (Mc := M_C_tryBys) (pc := 23) (ci := 5) (rest := []) 6 2 [.int v1, .int v2] (dq D_B_byIn_0_ok 15 rfl) rfl rfl lc_C_tryBys lv_C_tryBys_ ml_B_220 rfl rfl rfl rfl (t_C_tryBys r4 v1 v2 h3) (fun _ h5 => ?_)
    refine q_aload_n (pc := 26) (dq D_B_byIn_0_ok 16 rfl) rfl 1 rfl ?_
    refine q_aload_n (pc := 27) (dq D_B_byIn_0_ok 17 rfl) rfl 0 rfl ?_
    refine r_getI (pc := 28) (dq D_B_byIn_0_ok 18 rfl) fa_B_227 rfl (fun x7 => ?_)
    refine r_invI (Mc := M_B_grant) (pc := 31) (ci := 0) (rest := []) 0 1 [.int x7] (dq D_B_byIn_0_ok 19 rfl) rfl rfl lc_B_grant lv_B_grant_ ml_B_109 rfl rfl rfl rfl (t_B_grant v0 x7 h5) (fun r9 h8 => ?_)
    exact r_reti (pc := 34) (dq D_B_byIn_0_ok 20 rfl) rfl
  · refine q_aload_n (pc := 9) (dq D_B_byIn_0_ok 5 rfl) rfl 0 rfl ?_
    refine q_ic1 (pc := 10) (dq D_B_byIn_0_ok 6 rfl) ?_
    refine r_invI (Mc := M_B_refuse) (pc := 11) (ci := 0) (rest := []) 0 1 [.int 1] (dq D_B_byIn_0_ok 7 rfl) rfl rfl lc_B_refuse lv_B_refuse_ ml_B_87 rfl rfl rfl rfl (t_B_refuse v0 (1 : Int32) h1) (fun r11 h10 => ?_)
    exact r_reti (pc := 14) (dq D_B_byIn_0_ok 8 rfl) rfl
noncomputable def b_C_countSettings_37 (k5 : (Nat × Nat × Int32 × Int32 × Int32) → Hp → Option (Int32 × Hp)) (v0 : Nat) (v1 : Nat) (v2 : Int32) (v3 : Int32) (v4 : Int32) (h : Hp) : Option (Int32 × Hp) := k5 (v0, v1, v2, v3, v4 + 1) h
set_option maxHeartbeats 4000000 in
set_option maxRecDepth 20000 in
theorem tb_C_countSettings_37 {G : GG} {k5 : (Nat × Nat × Int32 × Int32 × Int32) → Hp → Option (Int32 × Hp)} (hk5 : ∀ s h, T G M_C_countSettings 1 cI 5 [(0, .ref s.1), (1, .ref s.2.1), (2, .int s.2.2.1), (3, .int s.2.2.2.1), (4, .int s.2.2.2.2)] [] h (k5 s h)) (v0 : Nat) (v1 : Nat) (v2 : Int32) (v3 : Int32) (v4 : Int32) (h : Hp) : T G M_C_countSettings 1 cI 37 [(0, .ref v0), (1, .ref v1), (2, .int v2), (3, .int v3), (4, .int v4)] [] h (b_C_countSettings_37 k5 v0 v1 v2 v3 v4 h) := by
  unfold b_C_countSettings_37
  refine q_iinc (pc := 37) (v := (1)) (ls' := [(4, .int (v4 + 1)), (0, .ref v0), (1, .ref v1), (2, .int v2), (3, .int v3)]) (dq D_C_countSettings_0_ok 19 rfl) 4 rfl (by decide) rfl rfl ?_
  refine q_goto (pc := 40) 5 (dq D_C_countSettings_0_ok 20 rfl) rfl ?_
  exact T.lsub [1, 2, 3, 4, 0] rfl (hk5 (v0, v1, v2, v3, v4 + 1) h)
noncomputable def b_C_countSettings_5 (k5 : (Nat × Nat × Int32 × Int32 × Int32) → Hp → Option (Int32 × Hp)) (v0 : Nat) (v1 : Nat) (v2 : Int32) (v3 : Int32) (v4 : Int32) (h : Hp) : Option (Int32 × Hp) := gd (hS h v1 = some (.inl 3)) (lt (hI h v1 1) fun x1 => if x1 ≤ v4 then (some (v3, h)) else (gd (hS h v1 = some (.inl 3)) (bd (f_W_lacks v1 v4 h) fun r3 h2 => if r3 = 0 then (gd (hS h2 v0 = some (.inl 5)) (bR (hR h2 v0 2) fun x4 => gd (ai h2 x4 0 v4) (lt (hI h2 x4 v4.toNatClampNeg) fun x5 => if x5 = v2 then (b_C_countSettings_37 k5 v0 v1 v2 (v3 + 1) v4 h2) else (b_C_countSettings_37 k5 v0 v1 v2 v3 v4 h2)))) else (b_C_countSettings_37 k5 v0 v1 v2 v3 v4 h2))))
set_option maxHeartbeats 4000000 in
set_option maxRecDepth 20000 in
theorem tb_C_countSettings_5 {G : GG} {k5 : (Nat × Nat × Int32 × Int32 × Int32) → Hp → Option (Int32 × Hp)} (hk5 : ∀ s h, T G M_C_countSettings 1 cI 5 [(0, .ref s.1), (1, .ref s.2.1), (2, .int s.2.2.1), (3, .int s.2.2.2.1), (4, .int s.2.2.2.2)] [] h (k5 s h)) (v0 : Nat) (v1 : Nat) (v2 : Int32) (v3 : Int32) (v4 : Int32) (h : Hp) : T G M_C_countSettings 1 cI 5 [(0, .ref v0), (1, .ref v1), (2, .int v2), (3, .int v3), (4, .int v4)] [] h (b_C_countSettings_5 k5 v0 v1 v2 v3 v4 h) := by
  unfold b_C_countSettings_5
  refine q_iload (pc := 5) (dq D_C_countSettings_0_ok 4 rfl) 4 rfl ?_
  refine q_aload_n (pc := 7) (dq D_C_countSettings_0_ok 5 rfl) rfl 1 rfl ?_
  refine r_getI (pc := 8) (dq D_C_countSettings_0_ok 6 rfl) fa_C_97 rfl (fun x1 => ?_)
  refine q_ic_ge (pc := 11) 43 (dq D_C_countSettings_0_ok 7 rfl) rfl ?_ ?_
  · refine q_iload_n (pc := 43) (dq D_C_countSettings_0_ok 21 rfl) rfl 3 rfl ?_
    exact r_reti (pc := 44) (dq D_C_countSettings_0_ok 22 rfl) rfl
  · refine q_aload_n (pc := 14) (dq D_C_countSettings_0_ok 8 rfl) rfl 1 rfl ?_
    refine q_iload (pc := 15) (dq D_C_countSettings_0_ok 9 rfl) 4 rfl ?_
    refine r_invI (Mc := M_W_lacks) (pc := 17) (ci := 3) (rest := []) 0 1 [.int v4] (dq D_C_countSettings_0_ok 10 rfl) rfl rfl lc_W_lacks lv_W_lacks_ ml_C_100 rfl rfl rfl rfl (t_W_lacks v1 v4 h) (fun r3 h2 => ?_)
    refine p_if_ne (pc := 20) 37 (dq D_C_countSettings_0_ok 11 rfl) rfl ?_ ?_
    · exact T.lsub [0, 1, 2, 3, 4] rfl (tb_C_countSettings_37 hk5 v0 v1 v2 v3 v4 h2)
    · refine q_aload_n (pc := 23) (dq D_C_countSettings_0_ok 12 rfl) rfl 0 rfl ?_
      refine q_getR (pc := 24) (dq D_C_countSettings_0_ok 13 rfl) fa_C_24 rfl (fun x4 => ?_)
      refine q_iload (pc := 27) (dq D_C_countSettings_0_ok 14 rfl) 4 rfl ?_
      refine r_iald (pc := 29) (dq D_C_countSettings_0_ok 15 rfl) (fun x5 => ?_)
      refine q_iload_n (pc := 30) (dq D_C_countSettings_0_ok 16 rfl) rfl 2 rfl ?_
      refine q_ic_ne (pc := 31) 37 (dq D_C_countSettings_0_ok 17 rfl) rfl ?_ ?_
      · exact T.lsub [0, 1, 2, 3, 4] rfl (tb_C_countSettings_37 hk5 v0 v1 v2 v3 v4 h2)
      · refine q_iinc (pc := 34) (v := (1)) (ls' := [(3, .int (v3 + 1)), (0, .ref v0), (1, .ref v1), (2, .int v2), (4, .int v4)]) (dq D_C_countSettings_0_ok 18 rfl) 3 rfl (by decide) rfl rfl ?_
        exact T.lsub [1, 2, 3, 0, 4] rfl (tb_C_countSettings_37 hk5 v0 v1 v2 (v3 + 1) v4 h2)
noncomputable def l_C_countSettings_5 : Nat → (Nat × Nat × Int32 × Int32 × Int32) → Hp → Option (Int32 × Hp) := lp (fun k5 s h => b_C_countSettings_5 k5 s.1 s.2.1 s.2.2.1 s.2.2.2.1 s.2.2.2.2 h)
set_option maxHeartbeats 4000000 in
set_option maxRecDepth 20000 in
theorem tl_C_countSettings_5 {G : GG} (n : Nat) (s : Nat × Nat × Int32 × Int32 × Int32) (h : Hp) : T G M_C_countSettings 1 cI 5 [(0, .ref s.1), (1, .ref s.2.1), (2, .int s.2.2.1), (3, .int s.2.2.2.1), (4, .int s.2.2.2.2)] [] h (l_C_countSettings_5 n s h) :=
  T.loop (lsOf := fun s => [(0, .ref s.1), (1, .ref s.2.1), (2, .int s.2.2.1), (3, .int s.2.2.2.1), (4, .int s.2.2.2.2)]) (fun k5 hk5 s h => tb_C_countSettings_5 hk5 s.1 s.2.1 s.2.2.1 s.2.2.2.1 s.2.2.2.2 h) n s h
noncomputable def f_C_countSettings (v0 : Nat) (v1 : Nat) (v2 : Int32) (h : Hp) : Option (Int32 × Hp) := lt (0 : Int32) fun y1 => lt (0 : Int32) fun y2 => l_C_countSettings_5 FU (v0, v1, v2, y1, y2) h
set_option maxHeartbeats 4000000 in
set_option maxRecDepth 20000 in
theorem t_C_countSettings {G : GG} (v0 : Nat) (v1 : Nat) (v2 : Int32) (h : Hp) : Mt G M_C_countSettings 1 [.ref v0, .ref v1, .int v2] cI h (f_C_countSettings v0 v1 v2 h) := by
  refine Mt.ofF (by decide +kernel) rfl (Rt.i rfl rfl) ?_
  show T G M_C_countSettings 1 cI 0 [(0, .ref v0), (1, .ref v1), (2, .int v2)] [] h _
  unfold f_C_countSettings
  refine q_ic0 (pc := 0) (dq D_C_countSettings_0_ok 0 rfl) ?_
  refine r_nmI (fun y1 => ?_)
  refine q_istore_n (pc := 1) (ls' := [(3, .int y1), (0, .ref v0), (1, .ref v1), (2, .int v2)]) (dq D_C_countSettings_0_ok 1 rfl) rfl rfl rfl ?_
  refine q_ic0 (pc := 2) (dq D_C_countSettings_0_ok 2 rfl) ?_
  refine r_nmI (fun y2 => ?_)
  refine q_istore (pc := 3) (ls' := [(4, .int y2), (3, .int y1), (0, .ref v0), (1, .ref v1), (2, .int v2)]) (dq D_C_countSettings_0_ok 3 rfl) rfl rfl ?_
  exact T.lsub [2, 3, 4, 1, 0] rfl (tl_C_countSettings_5 FU (v0, v1, v2, y1, y2) h)
noncomputable def b_C_settingsFor_69 (k5 : (Nat × Int32 × Int32 × Int32 × Int32) → Hp → Option (Int32 × Hp)) (v0 : Nat) (v1 : Int32) (v2 : Int32) (v3 : Int32) (v4 : Int32) (h : Hp) : Option (Int32 × Hp) := k5 (v0, v1, v2, v3, v4 + 1) h
set_option maxHeartbeats 4000000 in
set_option maxRecDepth 20000 in
theorem tb_C_settingsFor_69 {G : GG} {k5 : (Nat × Int32 × Int32 × Int32 × Int32) → Hp → Option (Int32 × Hp)} (hk5 : ∀ s h, T G M_C_settingsFor 3 cI 5 [(0, .ref s.1), (1, .int s.2.1), (2, .int s.2.2.1), (3, .int s.2.2.2.1), (4, .int s.2.2.2.2)] [] h (k5 s h)) (v0 : Nat) (v1 : Int32) (v2 : Int32) (v3 : Int32) (v4 : Int32) (h : Hp) : T G M_C_settingsFor 3 cI 69 [(0, .ref v0), (1, .int v1), (2, .int v2), (3, .int v3), (4, .int v4)] [] h (b_C_settingsFor_69 k5 v0 v1 v2 v3 v4 h) := by
  unfold b_C_settingsFor_69
  refine q_iinc (pc := 69) (v := (1)) (ls' := [(4, .int (v4 + 1)), (0, .ref v0), (1, .int v1), (2, .int v2), (3, .int v3)]) (dq D_C_settingsFor_0_ok 37 rfl) 4 rfl (by decide) rfl rfl ?_
  refine q_goto (pc := 72) 5 (dq D_C_settingsFor_0_ok 38 rfl) rfl ?_
  exact T.lsub [1, 2, 3, 4, 0] rfl (hk5 (v0, v1, v2, v3, v4 + 1) h)
noncomputable def b_C_settingsFor_5 (k5 : (Nat × Int32 × Int32 × Int32 × Int32) → Hp → Option (Int32 × Hp)) (v0 : Nat) (v1 : Int32) (v2 : Int32) (v3 : Int32) (v4 : Int32) (h : Hp) : Option (Int32 × Hp) := gd (hS h v0 = some (.inl 5)) (bR (hR h v0 5) fun x1 => gd (hS h x1 = some (.inl 2)) (lt (hI h x1 2) fun x2 => if x2 ≤ v4 then (some (v3, h)) else (if v3 ≤ 0 then (some (v3, h)) else (gd (hS h v0 = some (.inl 5)) (bR (hR h v0 5) fun x3 => gd (hS h x3 = some (.inl 2)) (bd (f_O_feastTooth x3 v1 v4 h) fun r5 h4 => if r5 = ((-1)) then (b_C_settingsFor_69 k5 v0 v1 v2 v3 v4 h4) else (gd (hS h4 v0 = some (.inl 5)) (bd (f_C_findReached v0 v4 v2 h4) fun _ h6 => gd (hS h6 v0 = some (.inl 5)) (bR (hR h6 v0 5) fun x8 => gd (hS h6 x8 = some (.inl 2)) (bR (hR h6 x8 3) fun x9 => gd (ai h6 x9 4 v4) (bR (hR h6 x9 v4.toNatClampNeg) fun x10 => gd (hS h6 v0 = some (.inl 5)) (bR (hR h6 v0 5) fun x11 => gd (hS h6 x11 = some (.inl 2)) (bd (f_O_feastTooth x11 v1 v4 h6) fun r13 h12 => gd (hS h12 v0 = some (.inl 5)) (bd (f_C_countSettings v0 x10 r13 h12) fun r15 h14 => lt (v3 * r15 : Int32) fun y16 => b_C_settingsFor_69 k5 v0 v1 v2 y16 v4 h14))))))))))))))
set_option maxHeartbeats 4000000 in
set_option maxRecDepth 20000 in
theorem tb_C_settingsFor_5 {G : GG} {k5 : (Nat × Int32 × Int32 × Int32 × Int32) → Hp → Option (Int32 × Hp)} (hk5 : ∀ s h, T G M_C_settingsFor 3 cI 5 [(0, .ref s.1), (1, .int s.2.1), (2, .int s.2.2.1), (3, .int s.2.2.2.1), (4, .int s.2.2.2.2)] [] h (k5 s h)) (v0 : Nat) (v1 : Int32) (v2 : Int32) (v3 : Int32) (v4 : Int32) (h : Hp) : T G M_C_settingsFor 3 cI 5 [(0, .ref v0), (1, .int v1), (2, .int v2), (3, .int v3), (4, .int v4)] [] h (b_C_settingsFor_5 k5 v0 v1 v2 v3 v4 h) := by
  unfold b_C_settingsFor_5
  refine q_iload (pc := 5) (dq D_C_settingsFor_0_ok 4 rfl) 4 rfl ?_
  refine q_aload_n (pc := 7) (dq D_C_settingsFor_0_ok 5 rfl) rfl 0 rfl ?_
  refine q_getR (pc := 8) (dq D_C_settingsFor_0_ok 6 rfl) fa_C_45 rfl (fun x1 => ?_)
  refine r_getI (pc := 11) (dq D_C_settingsFor_0_ok 7 rfl) fa_C_35 rfl (fun x2 => ?_)
  refine q_ic_ge (pc := 14) 75 (dq D_C_settingsFor_0_ok 8 rfl) rfl ?_ ?_
  · refine q_iload_n (pc := 75) (dq D_C_settingsFor_0_ok 39 rfl) rfl 3 rfl ?_
    exact r_reti (pc := 76) (dq D_C_settingsFor_0_ok 40 rfl) rfl
  · refine q_iload_n (pc := 17) (dq D_C_settingsFor_0_ok 9 rfl) rfl 3 rfl ?_
    refine p_if_le (pc := 18) 75 (dq D_C_settingsFor_0_ok 10 rfl) rfl ?_ ?_
    · refine q_iload_n (pc := 75) (dq D_C_settingsFor_0_ok 39 rfl) rfl 3 rfl ?_
      exact r_reti (pc := 76) (dq D_C_settingsFor_0_ok 40 rfl) rfl
    · refine q_aload_n (pc := 21) (dq D_C_settingsFor_0_ok 11 rfl) rfl 0 rfl ?_
      refine q_getR (pc := 22) (dq D_C_settingsFor_0_ok 12 rfl) fa_C_45 rfl (fun x3 => ?_)
      refine q_iload_n (pc := 25) (dq D_C_settingsFor_0_ok 13 rfl) rfl 1 rfl ?_
      refine q_iload (pc := 26) (dq D_C_settingsFor_0_ok 14 rfl) 4 rfl ?_
      refine r_invI (Mc := M_O_feastTooth) (pc := 28) (ci := 2) (rest := []) 0 2 [.int v1, .int v4] (dq D_C_settingsFor_0_ok 15 rfl) rfl rfl lc_O_feastTooth lv_O_feastTooth_ ml_C_76 rfl rfl rfl rfl (t_O_feastTooth x3 v1 v4 h) (fun r5 h4 => ?_)
      refine q_icm1 (pc := 31) (dq D_C_settingsFor_0_ok 16 rfl) ?_
      refine q_ic_eq (pc := 32) 69 (dq D_C_settingsFor_0_ok 17 rfl) rfl ?_ ?_
      · exact T.lsub [0, 1, 2, 3, 4] rfl (tb_C_settingsFor_69 hk5 v0 v1 v2 v3 v4 h4)
      · refine q_aload_n (pc := 35) (dq D_C_settingsFor_0_ok 18 rfl) rfl 0 rfl ?_
        refine q_iload (pc := 36) (dq D_C_settingsFor_0_ok 19 rfl) 4 rfl ?_
        refine q_iload_n (pc := 38) (dq D_C_settingsFor_0_ok 20 rfl) rfl 2 rfl ?_
        refine r_invU (Mc := M_C_findReached) (pc := 39) (ci := 5) (rest := []) 2 2 [.int v4, .int v2] (dq D_C_settingsFor_0_ok 21 rfl) rfl rfl lc_C_findReached lv_C_findReached_ ml_C_93 rfl rfl rfl rfl (t_C_findReached v0 v4 v2 h4) (fun _ h6 => ?_)
        refine q_iload_n (pc := 42) (dq D_C_settingsFor_0_ok 22 rfl) rfl 3 rfl ?_
        refine q_aload_n (pc := 43) (dq D_C_settingsFor_0_ok 23 rfl) rfl 0 rfl ?_
        refine q_aload_n (pc := 44) (dq D_C_settingsFor_0_ok 24 rfl) rfl 0 rfl ?_
        refine q_getR (pc := 45) (dq D_C_settingsFor_0_ok 25 rfl) fa_C_45 rfl (fun x8 => ?_)
        refine q_getR (pc := 48) (dq D_C_settingsFor_0_ok 26 rfl) fa_C_52 rfl (fun x9 => ?_)
        refine q_iload (pc := 51) (dq D_C_settingsFor_0_ok 27 rfl) 4 rfl ?_
        refine r_aald (pc := 53) 4 (dq D_C_settingsFor_0_ok 28 rfl) rfl rfl (fun _ => rfl) (fun x10 => ?_)
        refine q_aload_n (pc := 54) (dq D_C_settingsFor_0_ok 29 rfl) rfl 0 rfl ?_
        refine q_getR (pc := 55) (dq D_C_settingsFor_0_ok 30 rfl) fa_C_45 rfl (fun x11 => ?_)
        refine q_iload_n (pc := 58) (dq D_C_settingsFor_0_ok 31 rfl) rfl 1 rfl ?_
        refine q_iload (pc := 59) (dq D_C_settingsFor_0_ok 32 rfl) 4 rfl ?_
        refine r_invI (Mc := M_O_feastTooth) (pc := 61) (ci := 2) (rest := [.ref x10, .ref v0, .int v3]) 0 2 [.int v1, .int v4] (dq D_C_settingsFor_0_ok 33 rfl) rfl rfl lc_O_feastTooth lv_O_feastTooth_ ml_C_76 rfl rfl rfl rfl (t_O_feastTooth x11 v1 v4 h6) (fun r13 h12 => ?_)
        refine r_invI (Mc := M_C_countSettings) (pc := 64) (ci := 5) (rest := [.int v3]) 1 2 [.ref x10, .int r13] (dq D_C_settingsFor_0_ok 34 rfl) rfl rfl lc_C_countSettings lv_C_countSettings_ ml_C_104 rfl rfl rfl rfl (t_C_countSettings v0 x10 r13 h12) (fun r15 h14 => ?_)
        refine q_imul (pc := 67) (dq D_C_settingsFor_0_ok 35 rfl) ?_
        refine r_nmI (fun y16 => ?_)
        refine q_istore_n (pc := 68) (ls' := [(3, .int y16), (0, .ref v0), (1, .int v1), (2, .int v2), (4, .int v4)]) (dq D_C_settingsFor_0_ok 36 rfl) rfl rfl rfl ?_
        exact T.lsub [1, 2, 3, 0, 4] rfl (tb_C_settingsFor_69 hk5 v0 v1 v2 y16 v4 h14)
noncomputable def l_C_settingsFor_5 : Nat → (Nat × Int32 × Int32 × Int32 × Int32) → Hp → Option (Int32 × Hp) := lp (fun k5 s h => b_C_settingsFor_5 k5 s.1 s.2.1 s.2.2.1 s.2.2.2.1 s.2.2.2.2 h)
set_option maxHeartbeats 4000000 in
set_option maxRecDepth 20000 in
theorem tl_C_settingsFor_5 {G : GG} (n : Nat) (s : Nat × Int32 × Int32 × Int32 × Int32) (h : Hp) : T G M_C_settingsFor 3 cI 5 [(0, .ref s.1), (1, .int s.2.1), (2, .int s.2.2.1), (3, .int s.2.2.2.1), (4, .int s.2.2.2.2)] [] h (l_C_settingsFor_5 n s h) :=
  T.loop (lsOf := fun s => [(0, .ref s.1), (1, .int s.2.1), (2, .int s.2.2.1), (3, .int s.2.2.2.1), (4, .int s.2.2.2.2)]) (fun k5 hk5 s h => tb_C_settingsFor_5 hk5 s.1 s.2.1 s.2.2.1 s.2.2.2.1 s.2.2.2.2 h) n s h
noncomputable def f_C_settingsFor (v0 : Nat) (v1 : Int32) (v2 : Int32) (h : Hp) : Option (Int32 × Hp) := lt (1 : Int32) fun y1 => lt (0 : Int32) fun y2 => l_C_settingsFor_5 FU (v0, v1, v2, y1, y2) h
set_option maxHeartbeats 4000000 in
set_option maxRecDepth 20000 in
theorem t_C_settingsFor {G : GG} (v0 : Nat) (v1 : Int32) (v2 : Int32) (h : Hp) : Mt G M_C_settingsFor 3 [.ref v0, .int v1, .int v2] cI h (f_C_settingsFor v0 v1 v2 h) := by
  refine Mt.ofF (by decide +kernel) rfl (Rt.i rfl rfl) ?_
  show T G M_C_settingsFor 3 cI 0 [(0, .ref v0), (1, .int v1), (2, .int v2)] [] h _
  unfold f_C_settingsFor
  refine q_ic1 (pc := 0) (dq D_C_settingsFor_0_ok 0 rfl) ?_
  refine r_nmI (fun y1 => ?_)
  refine q_istore_n (pc := 1) (ls' := [(3, .int y1), (0, .ref v0), (1, .int v1), (2, .int v2)]) (dq D_C_settingsFor_0_ok 1 rfl) rfl rfl rfl ?_
  refine q_ic0 (pc := 2) (dq D_C_settingsFor_0_ok 2 rfl) ?_
  refine r_nmI (fun y2 => ?_)
  refine q_istore (pc := 3) (ls' := [(4, .int y2), (3, .int y1), (0, .ref v0), (1, .int v1), (2, .int v2)]) (dq D_C_settingsFor_0_ok 3 rfl) rfl rfl ?_
  exact T.lsub [2, 3, 4, 1, 0] rfl (tl_C_settingsFor_5 FU (v0, v1, v2, y1, y2) h)
noncomputable def b_B_settings_26 (v0 : Nat) (h : Hp) : Option (Int32 × Hp) := gd (hS h v0 = some (.inl 0)) (bd (f_B_refuse v0 (2 : Int32) h) fun r2 h1 => some (r2, h1))
set_option maxHeartbeats 4000000 in
set_option maxRecDepth 20000 in
theorem tb_B_settings_26 {G : GG} (v0 : Nat) (h : Hp) : T G M_B_settings 5 cI 26 [(0, .ref v0)] [] h (b_B_settings_26 v0 h) := by
  unfold b_B_settings_26
  refine q_aload_n (pc := 26) (dq D_B_settings_0_ok 14 rfl) rfl 0 rfl ?_
  refine q_ic2 (pc := 27) (dq D_B_settings_0_ok 15 rfl) ?_
  refine r_invI (Mc := M_B_refuse) (pc := 28) (ci := 0) (rest := []) 0 1 [.int 2] (dq D_B_settings_0_ok 16 rfl) rfl rfl lc_B_refuse lv_B_refuse_ ml_B_87 rfl rfl rfl rfl (t_B_refuse v0 (2 : Int32) h) (fun r2 h1 => ?_)
  exact r_reti (pc := 31) (dq D_B_settings_0_ok 17 rfl) rfl
noncomputable def f_B_settings (v0 : Nat) (v1 : Int32) (v2 : Int32) (h : Hp) : Option (Int32 × Hp) := gd (hS h v0 = some (.inl 0)) (bd (f_B_hasFeast v0 v1 h) fun r2 h1 => if r2 = 0 then (gd (hS h1 v0 = some (.inl 0)) (bd (f_B_refuse v0 (1 : Int32) h1) fun r10 h9 => some (r10, h9))) else (if v2 < 1 then (b_B_settings_26 v0 h1) else (if v2 ≤ 5000 then (gd (hS h1 v0 = some (.inl 0)) (bd (f_B_daysToCome v0 h1) fun r4 h3 => gd (hS h3 r4 = some (.inl 5)) (bd (f_C_settingsFor r4 v1 v2 h3) fun r6 h5 => gd (hS h5 v0 = some (.inl 0)) (bd (f_B_grant v0 r6 h5) fun r8 h7 => some (r8, h7))))) else (b_B_settings_26 v0 h1))))
set_option maxHeartbeats 4000000 in
set_option maxRecDepth 20000 in
theorem t_B_settings {G : GG} (v0 : Nat) (v1 : Int32) (v2 : Int32) (h : Hp) : Mt G M_B_settings 5 [.ref v0, .int v1, .int v2] cI h (f_B_settings v0 v1 v2 h) := by
  refine Mt.ofF (by decide +kernel) rfl (Rt.i rfl rfl) ?_
  show T G M_B_settings 5 cI 0 [(0, .ref v0), (1, .int v1), (2, .int v2)] [] h _
  unfold f_B_settings
  refine q_aload_n (pc := 0) (dq D_B_settings_0_ok 0 rfl) rfl 0 rfl ?_
  refine q_iload_n (pc := 1) (dq D_B_settings_0_ok 1 rfl) rfl 1 rfl ?_
  refine r_invI (Mc := M_B_hasFeast) (pc := 2) (ci := 0) (rest := []) 0 1 [.int v1] (dq D_B_settings_0_ok 2 rfl) rfl rfl lc_B_hasFeast lv_B_hasFeast_ ml_B_189 rfl rfl rfl rfl (t_B_hasFeast v0 v1 h) (fun r2 h1 => ?_)
  refine p_if_ne (pc := 5) 14 (dq D_B_settings_0_ok 3 rfl) rfl ?_ ?_
  · refine q_iload_n (pc := 14) (dq D_B_settings_0_ok 8 rfl) rfl 2 rfl ?_
    refine q_ic1 (pc := 15) (dq D_B_settings_0_ok 9 rfl) ?_
    refine q_ic_lt (pc := 16) 26 (dq D_B_settings_0_ok 10 rfl) rfl ?_ ?_
    · exact T.lsub [0] rfl (tb_B_settings_26 v0 h1)
    · refine q_iload_n (pc := 19) (dq D_B_settings_0_ok 11 rfl) rfl 2 rfl ?_
      refine q_sipush (pc := 20) (v := 5000) (dq D_B_settings_0_ok 12 rfl) (by decide) ?_
      refine q_ic_le (pc := 23) 32 (dq D_B_settings_0_ok 13 rfl) rfl ?_ ?_
      · refine q_aload_n (pc := 32) (dq D_B_settings_0_ok 18 rfl) rfl 0 rfl ?_
        refine q_aload_n (pc := 33) (dq D_B_settings_0_ok 19 rfl) rfl 0 rfl ?_
        refine r_invA (Mc := M_B_daysToCome) (pc := 34) (ci := 0) (rest := [.ref v0]) 4 0 [] (dq D_B_settings_0_ok 20 rfl) rfl rfl lc_B_daysToCome lv_B_daysToCome_ ml_B_192 rfl rfl rfl rfl (t_B_daysToCome v0 h1) (fun r4 h3 => ?_)
        refine q_iload_n (pc := 37) (dq D_B_settings_0_ok 21 rfl) rfl 1 rfl ?_
        refine q_iload_n (pc := 38) (dq D_B_settings_0_ok 22 rfl) rfl 2 rfl ?_
        refine r_invI (Mc := M_C_settingsFor) (pc := 39) (ci := 5) (rest := [.ref v0]) 3 2 [.int v1, .int v2] (dq D_B_settings_0_ok 23 rfl) rfl rfl lc_C_settingsFor lv_C_settingsFor_ ml_B_230 rfl rfl rfl rfl (t_C_settingsFor r4 v1 v2 h3) (fun r6 h5 => ?_)
        refine r_invI (Mc := M_B_grant) (pc := 42) (ci := 0) (rest := []) 0 1 [.int r6] (dq D_B_settings_0_ok 24 rfl) rfl rfl lc_B_grant lv_B_grant_ ml_B_109 rfl rfl rfl rfl (t_B_grant v0 r6 h5) (fun r8 h7 => ?_)
        exact r_reti (pc := 45) (dq D_B_settings_0_ok 25 rfl) rfl
      · exact T.lsub [0] rfl (tb_B_settings_26 v0 h1)
  · refine q_aload_n (pc := 8) (dq D_B_settings_0_ok 4 rfl) rfl 0 rfl ?_
    refine q_ic1 (pc := 9) (dq D_B_settings_0_ok 5 rfl) ?_
    refine r_invI (Mc := M_B_refuse) (pc := 10) (ci := 0) (rest := []) 0 1 [.int 1] (dq D_B_settings_0_ok 6 rfl) rfl rfl lc_B_refuse lv_B_refuse_ ml_B_87 rfl rfl rfl rfl (t_B_refuse v0 (1 : Int32) h1) (fun r10 h9 => ?_)
    exact r_reti (pc := 13) (dq D_B_settings_0_ok 7 rfl) rfl
