noncomputable def b_m_isOn_53 (k2 : (Nat × Int32 × Int32) → Hp → Option (Int32 × Hp)) (v0 : Nat) (v1 : Int32) (v2 : Int32) (h : Hp) : Option (Int32 × Hp) := k2 (v0, v1, v2 + 1) h
set_option maxHeartbeats 4000000 in
set_option maxRecDepth 20000 in
theorem tb_m_isOn_53 {G : GG} {k2 : (Nat × Int32 × Int32) → Hp → Option (Int32 × Hp)} (hk2 : ∀ s h, T G M_m_isOn 1 cI 2 [(0, .ref s.1), (1, .int s.2.1), (2, .int s.2.2)] [] h (k2 s h)) (v0 : Nat) (v1 : Int32) (v2 : Int32) (h : Hp) : T G M_m_isOn 1 cI 53 [(0, .ref v0), (1, .int v1), (2, .int v2)] [] h (b_m_isOn_53 k2 v0 v1 v2 h) := by
  unfold b_m_isOn_53
  refine q_iinc (pc := 53) (v := (1)) (ls' := [(2, .int (v2 + 1)), (0, .ref v0), (1, .int v1)]) (dq D_m_isOn_0_ok 31 rfl) 2 rfl (by decide) rfl rfl ?_
  refine q_goto (pc := 56) 2 (dq D_m_isOn_0_ok 32 rfl) rfl ?_
  exact T.lsub [1, 2, 0] rfl (hk2 (v0, v1, v2 + 1) h)
noncomputable def b_m_isOn_2 (k2 : (Nat × Int32 × Int32) → Hp → Option (Int32 × Hp)) (v0 : Nat) (v1 : Int32) (v2 : Int32) (h : Hp) : Option (Int32 × Hp) := gd (hS h v0 = some (.inl 11)) (bR (hR h v0 3) fun x1 => gd (hS h x1 = some (.inl 12)) (lt (hI h x1 2) fun x2 => if x2 ≤ v2 then (gd (zb 1) (some (1, h))) else (gd (hS h v0 = some (.inl 11)) (bR (hR h v0 3) fun x3 => gd (hS h x3 = some (.inl 12)) (bR (hR h x3 16) fun x4 => gd (ai h x4 0 v1) (lt (hI h x4 v1.toNatClampNeg) fun x5 => bd (f_m_bit x5 v2 h) fun r7 h6 => if r7 = 0 then (b_m_isOn_53 k2 v0 v1 v2 h6) else (gd (hS h6 v0 = some (.inl 11)) (bR (hR h6 v0 16) fun x8 => gd (ai h6 x8 0 v2) (lt (hI h6 x8 v2.toNatClampNeg) fun x9 => gd (hS h6 v0 = some (.inl 11)) (bR (hR h6 v0 3) fun x10 => gd (hS h6 x10 = some (.inl 12)) (bR (hR h6 x10 15) fun x11 => gd (ai h6 x11 0 ((5 * v1) + v2)) (lt (hI h6 x11 ((5 * v1) + v2).toNatClampNeg) fun x12 => if x9 = x12 then (b_m_isOn_53 k2 v0 v1 v2 h6) else (gd (zb 0) (some (0, h6)))))))))))))))
set_option maxHeartbeats 4000000 in
set_option maxRecDepth 20000 in
theorem tb_m_isOn_2 {G : GG} {k2 : (Nat × Int32 × Int32) → Hp → Option (Int32 × Hp)} (hk2 : ∀ s h, T G M_m_isOn 1 cI 2 [(0, .ref s.1), (1, .int s.2.1), (2, .int s.2.2)] [] h (k2 s h)) (v0 : Nat) (v1 : Int32) (v2 : Int32) (h : Hp) : T G M_m_isOn 1 cI 2 [(0, .ref v0), (1, .int v1), (2, .int v2)] [] h (b_m_isOn_2 k2 v0 v1 v2 h) := by
  unfold b_m_isOn_2
  refine q_iload_n (pc := 2) (dq D_m_isOn_0_ok 2 rfl) rfl 2 rfl ?_
  refine q_aload_n (pc := 3) (dq D_m_isOn_0_ok 3 rfl) rfl 0 rfl ?_
  refine q_getR (pc := 4) (dq D_m_isOn_0_ok 4 rfl) fa_m_348 rfl (fun x1 => ?_)
  refine r_getI (pc := 7) (dq D_m_isOn_0_ok 5 rfl) fa_m_205 rfl (fun x2 => ?_)
  refine q_ic_ge (pc := 10) 59 (dq D_m_isOn_0_ok 6 rfl) rfl ?_ ?_
  · refine q_ic1 (pc := 59) (dq D_m_isOn_0_ok 33 rfl) ?_
    exact r_retz (pc := 60) (dq D_m_isOn_0_ok 34 rfl) rfl
  · refine q_aload_n (pc := 13) (dq D_m_isOn_0_ok 7 rfl) rfl 0 rfl ?_
    refine q_getR (pc := 14) (dq D_m_isOn_0_ok 8 rfl) fa_m_348 rfl (fun x3 => ?_)
    refine q_getR (pc := 17) (dq D_m_isOn_0_ok 9 rfl) fa_m_297 rfl (fun x4 => ?_)
    refine q_iload_n (pc := 20) (dq D_m_isOn_0_ok 10 rfl) rfl 1 rfl ?_
    refine r_iald (pc := 21) (dq D_m_isOn_0_ok 11 rfl) (fun x5 => ?_)
    refine q_iload_n (pc := 22) (dq D_m_isOn_0_ok 12 rfl) rfl 2 rfl ?_
    refine r_insI (Mc := M_m_bit) (pc := 23) (rest := []) 0 2 [.int x5, .int v2] (dq D_m_isOn_0_ok 13 rfl) lc_m_bit ls_m_bit ml_m_292 rfl rfl rfl rfl (t_m_bit x5 v2 h) (fun r7 h6 => ?_)
    refine p_if_eq (pc := 26) 53 (dq D_m_isOn_0_ok 14 rfl) rfl ?_ ?_
    · exact T.lsub [0, 1, 2] rfl (tb_m_isOn_53 hk2 v0 v1 v2 h6)
    · refine q_aload_n (pc := 29) (dq D_m_isOn_0_ok 15 rfl) rfl 0 rfl ?_
      refine q_getR (pc := 30) (dq D_m_isOn_0_ok 16 rfl) fa_m_21 rfl (fun x8 => ?_)
      refine q_iload_n (pc := 33) (dq D_m_isOn_0_ok 17 rfl) rfl 2 rfl ?_
      refine r_iald (pc := 34) (dq D_m_isOn_0_ok 18 rfl) (fun x9 => ?_)
      refine q_aload_n (pc := 35) (dq D_m_isOn_0_ok 19 rfl) rfl 0 rfl ?_
      refine q_getR (pc := 36) (dq D_m_isOn_0_ok 20 rfl) fa_m_348 rfl (fun x10 => ?_)
      refine q_getR (pc := 39) (dq D_m_isOn_0_ok 21 rfl) fa_m_295 rfl (fun x11 => ?_)
      refine q_ic5 (pc := 42) (dq D_m_isOn_0_ok 22 rfl) ?_
      refine q_iload_n (pc := 43) (dq D_m_isOn_0_ok 23 rfl) rfl 1 rfl ?_
      refine q_imul (pc := 44) (dq D_m_isOn_0_ok 24 rfl) ?_
      refine q_iload_n (pc := 45) (dq D_m_isOn_0_ok 25 rfl) rfl 2 rfl ?_
      refine q_iadd (pc := 46) (dq D_m_isOn_0_ok 26 rfl) ?_
      refine r_iald (pc := 47) (dq D_m_isOn_0_ok 27 rfl) (fun x12 => ?_)
      refine q_ic_eq (pc := 48) 53 (dq D_m_isOn_0_ok 28 rfl) rfl ?_ ?_
      · exact T.lsub [0, 1, 2] rfl (tb_m_isOn_53 hk2 v0 v1 v2 h6)
      · refine q_ic0 (pc := 51) (dq D_m_isOn_0_ok 29 rfl) ?_
        exact r_retz (pc := 52) (dq D_m_isOn_0_ok 30 rfl) rfl
noncomputable def l_m_isOn_2 : Nat → (Nat × Int32 × Int32) → Hp → Option (Int32 × Hp) := lp (fun k2 s h => b_m_isOn_2 k2 s.1 s.2.1 s.2.2 h)
set_option maxHeartbeats 4000000 in
set_option maxRecDepth 20000 in
theorem tl_m_isOn_2 {G : GG} (n : Nat) (s : Nat × Int32 × Int32) (h : Hp) : T G M_m_isOn 1 cI 2 [(0, .ref s.1), (1, .int s.2.1), (2, .int s.2.2)] [] h (l_m_isOn_2 n s h) :=
  T.loop (lsOf := fun s => [(0, .ref s.1), (1, .int s.2.1), (2, .int s.2.2)]) (fun k2 hk2 s h => tb_m_isOn_2 hk2 s.1 s.2.1 s.2.2 h) n s h
noncomputable def f_m_isOn (v0 : Nat) (v1 : Int32) (h : Hp) : Option (Int32 × Hp) := lt (0 : Int32) fun y1 => l_m_isOn_2 FU (v0, v1, y1) h
set_option maxHeartbeats 4000000 in
set_option maxRecDepth 20000 in
theorem t_m_isOn {G : GG} (v0 : Nat) (v1 : Int32) (h : Hp) : Mt G M_m_isOn 1 [.ref v0, .int v1] cI h (f_m_isOn v0 v1 h) := by
  refine Mt.ofF (by decide +kernel) rfl (Rt.z rfl rfl) ?_
  show T G M_m_isOn 1 cI 0 [(0, .ref v0), (1, .int v1)] [] h _
  unfold f_m_isOn
  refine q_ic0 (pc := 0) (dq D_m_isOn_0_ok 0 rfl) ?_
  refine r_nmI (fun y1 => ?_)
  refine q_istore_n (pc := 1) (ls' := [(2, .int y1), (0, .ref v0), (1, .int v1)]) (dq D_m_isOn_0_ok 1 rfl) rfl rfl rfl ?_
  exact T.lsub [1, 2, 0] rfl (tl_m_isOn_2 FU (v0, v1, y1) h)
noncomputable def b_m_feastsOf_39 (k4 : (Nat × Int32 × Int32 × Int32) → Hp → Option (Int32 × Hp)) (v0 : Nat) (v1 : Int32) (v3 : Int32) (s0 : Int32) (s1 : Int32) (h : Hp) : Option (Int32 × Hp) := lt (s1 ||| s0 : Int32) fun y1 => k4 (v0, v1, y1, v3 + 1) h
set_option maxHeartbeats 4000000 in
set_option maxRecDepth 20000 in
theorem tb_m_feastsOf_39 {G : GG} {k4 : (Nat × Int32 × Int32 × Int32) → Hp → Option (Int32 × Hp)} (hk4 : ∀ s h, T G M_m_feastsOf 1 cI 4 [(0, .ref s.1), (1, .int s.2.1), (2, .int s.2.2.1), (3, .int s.2.2.2)] [] h (k4 s h)) (v0 : Nat) (v1 : Int32) (v3 : Int32) (s0 : Int32) (s1 : Int32) (h : Hp) : T G M_m_feastsOf 1 cI 39 [(0, .ref v0), (1, .int v1), (3, .int v3)] [.int s0, .int s1] h (b_m_feastsOf_39 k4 v0 v1 v3 s0 s1 h) := by
  unfold b_m_feastsOf_39
  refine q_ior (pc := 39) (dq D_m_feastsOf_0_ok 23 rfl) ?_
  refine r_nmI (fun y1 => ?_)
  refine q_istore_n (pc := 40) (ls' := [(2, .int y1), (0, .ref v0), (1, .int v1), (3, .int v3)]) (dq D_m_feastsOf_0_ok 24 rfl) rfl rfl rfl ?_
  refine q_iinc (pc := 41) (v := (1)) (ls' := [(3, .int (v3 + 1)), (2, .int y1), (0, .ref v0), (1, .int v1)]) (dq D_m_feastsOf_0_ok 25 rfl) 3 rfl (by decide) rfl rfl ?_
  refine q_goto (pc := 44) 4 (dq D_m_feastsOf_0_ok 26 rfl) rfl ?_
  exact T.lsub [2, 3, 1, 0] rfl (hk4 (v0, v1, y1, v3 + 1) h)
noncomputable def b_m_feastsOf_4 (k4 : (Nat × Int32 × Int32 × Int32) → Hp → Option (Int32 × Hp)) (v0 : Nat) (v1 : Int32) (v2 : Int32) (v3 : Int32) (h : Hp) : Option (Int32 × Hp) := gd (hS h v0 = some (.inl 11)) (bR (hR h v0 3) fun x1 => gd (hS h x1 = some (.inl 12)) (lt (hI h x1 4) fun x2 => if x2 ≤ v3 then (some (v2, h)) else (gd (hS h v0 = some (.inl 11)) (bR (hR h v0 3) fun x3 => gd (hS h x3 = some (.inl 12)) (bR (hR h x3 16) fun x4 => gd (ai h x4 0 v3) (lt (hI h x4 v3.toNatClampNeg) fun x5 => bd (f_m_bit x5 v1 h) fun r7 h6 => if r7 = 0 then (b_m_feastsOf_39 k4 v0 v1 v3 0 v2 h6) else (b_m_feastsOf_39 k4 v0 v1 v3 ((1 : Int32) <<< (v3 &&& 31)) v2 h6)))))))
set_option maxHeartbeats 4000000 in
set_option maxRecDepth 20000 in
theorem tb_m_feastsOf_4 {G : GG} {k4 : (Nat × Int32 × Int32 × Int32) → Hp → Option (Int32 × Hp)} (hk4 : ∀ s h, T G M_m_feastsOf 1 cI 4 [(0, .ref s.1), (1, .int s.2.1), (2, .int s.2.2.1), (3, .int s.2.2.2)] [] h (k4 s h)) (v0 : Nat) (v1 : Int32) (v2 : Int32) (v3 : Int32) (h : Hp) : T G M_m_feastsOf 1 cI 4 [(0, .ref v0), (1, .int v1), (2, .int v2), (3, .int v3)] [] h (b_m_feastsOf_4 k4 v0 v1 v2 v3 h) := by
  unfold b_m_feastsOf_4
  refine q_iload_n (pc := 4) (dq D_m_feastsOf_0_ok 4 rfl) rfl 3 rfl ?_
  refine q_aload_n (pc := 5) (dq D_m_feastsOf_0_ok 5 rfl) rfl 0 rfl ?_
  refine q_getR (pc := 6) (dq D_m_feastsOf_0_ok 6 rfl) fa_m_348 rfl (fun x1 => ?_)
  refine r_getI (pc := 9) (dq D_m_feastsOf_0_ok 7 rfl) fa_m_289 rfl (fun x2 => ?_)
  refine q_ic_ge (pc := 12) 47 (dq D_m_feastsOf_0_ok 8 rfl) rfl ?_ ?_
  · refine q_iload_n (pc := 47) (dq D_m_feastsOf_0_ok 27 rfl) rfl 2 rfl ?_
    exact r_reti (pc := 48) (dq D_m_feastsOf_0_ok 28 rfl) rfl
  · refine q_iload_n (pc := 15) (dq D_m_feastsOf_0_ok 9 rfl) rfl 2 rfl ?_
    refine q_aload_n (pc := 16) (dq D_m_feastsOf_0_ok 10 rfl) rfl 0 rfl ?_
    refine q_getR (pc := 17) (dq D_m_feastsOf_0_ok 11 rfl) fa_m_348 rfl (fun x3 => ?_)
    refine q_getR (pc := 20) (dq D_m_feastsOf_0_ok 12 rfl) fa_m_297 rfl (fun x4 => ?_)
    refine q_iload_n (pc := 23) (dq D_m_feastsOf_0_ok 13 rfl) rfl 3 rfl ?_
    refine r_iald (pc := 24) (dq D_m_feastsOf_0_ok 14 rfl) (fun x5 => ?_)
    refine q_iload_n (pc := 25) (dq D_m_feastsOf_0_ok 15 rfl) rfl 1 rfl ?_
    refine r_insI (Mc := M_m_bit) (pc := 26) (rest := [.int v2]) 0 2 [.int x5, .int v1] (dq D_m_feastsOf_0_ok 16 rfl) lc_m_bit ls_m_bit ml_m_292 rfl rfl rfl rfl (t_m_bit x5 v1 h) (fun r7 h6 => ?_)
    refine p_if_eq (pc := 29) 38 (dq D_m_feastsOf_0_ok 17 rfl) rfl ?_ ?_
    · refine q_ic0 (pc := 38) (dq D_m_feastsOf_0_ok 22 rfl) ?_
      exact T.lsub [0, 1, 3] rfl (tb_m_feastsOf_39 hk4 v0 v1 v3 0 v2 h6)
    · refine q_ic1 (pc := 32) (dq D_m_feastsOf_0_ok 18 rfl) ?_
      refine q_iload_n (pc := 33) (dq D_m_feastsOf_0_ok 19 rfl) rfl 3 rfl ?_
      refine q_ishl (pc := 34) (dq D_m_feastsOf_0_ok 20 rfl) ?_
      refine q_goto (pc := 35) 39 (dq D_m_feastsOf_0_ok 21 rfl) rfl ?_
      exact T.lsub [0, 1, 3] rfl (tb_m_feastsOf_39 hk4 v0 v1 v3 ((1 : Int32) <<< (v3 &&& 31)) v2 h6)
noncomputable def l_m_feastsOf_4 : Nat → (Nat × Int32 × Int32 × Int32) → Hp → Option (Int32 × Hp) := lp (fun k4 s h => b_m_feastsOf_4 k4 s.1 s.2.1 s.2.2.1 s.2.2.2 h)
set_option maxHeartbeats 4000000 in
set_option maxRecDepth 20000 in
theorem tl_m_feastsOf_4 {G : GG} (n : Nat) (s : Nat × Int32 × Int32 × Int32) (h : Hp) : T G M_m_feastsOf 1 cI 4 [(0, .ref s.1), (1, .int s.2.1), (2, .int s.2.2.1), (3, .int s.2.2.2)] [] h (l_m_feastsOf_4 n s h) :=
  T.loop (lsOf := fun s => [(0, .ref s.1), (1, .int s.2.1), (2, .int s.2.2.1), (3, .int s.2.2.2)]) (fun k4 hk4 s h => tb_m_feastsOf_4 hk4 s.1 s.2.1 s.2.2.1 s.2.2.2 h) n s h
noncomputable def f_m_feastsOf (v0 : Nat) (v1 : Int32) (h : Hp) : Option (Int32 × Hp) := lt (0 : Int32) fun y1 => lt (0 : Int32) fun y2 => l_m_feastsOf_4 FU (v0, v1, y1, y2) h
set_option maxHeartbeats 4000000 in
set_option maxRecDepth 20000 in
theorem t_m_feastsOf {G : GG} (v0 : Nat) (v1 : Int32) (h : Hp) : Mt G M_m_feastsOf 1 [.ref v0, .int v1] cI h (f_m_feastsOf v0 v1 h) := by
  refine Mt.ofF (by decide +kernel) rfl (Rt.i rfl rfl) ?_
  show T G M_m_feastsOf 1 cI 0 [(0, .ref v0), (1, .int v1)] [] h _
  unfold f_m_feastsOf
  refine q_ic0 (pc := 0) (dq D_m_feastsOf_0_ok 0 rfl) ?_
  refine r_nmI (fun y1 => ?_)
  refine q_istore_n (pc := 1) (ls' := [(2, .int y1), (0, .ref v0), (1, .int v1)]) (dq D_m_feastsOf_0_ok 1 rfl) rfl rfl rfl ?_
  refine q_ic0 (pc := 2) (dq D_m_feastsOf_0_ok 2 rfl) ?_
  refine r_nmI (fun y2 => ?_)
  refine q_istore_n (pc := 3) (ls' := [(3, .int y2), (2, .int y1), (0, .ref v0), (1, .int v1)]) (dq D_m_feastsOf_0_ok 3 rfl) rfl rfl rfl ?_
  exact T.lsub [2, 3, 1, 0] rfl (tl_m_feastsOf_4 FU (v0, v1, y1, y2) h)
noncomputable def b_m_wheel_22 (v0 : Nat) (h : Hp) : Option (Int32 × Hp) := gd (hS h v0 = some (.inl 11)) (bd (f_m_refused v0 (1 : Int32) h) fun r2 h1 => some (r2, h1))
set_option maxHeartbeats 4000000 in
set_option maxRecDepth 20000 in
theorem tb_m_wheel_22 {G : GG} (v0 : Nat) (h : Hp) : T G M_m_wheel 2 cI 22 [(0, .ref v0)] [] h (b_m_wheel_22 v0 h) := by
  unfold b_m_wheel_22
  refine q_aload_n (pc := 22) (dq D_m_wheel_0_ok 12 rfl) rfl 0 rfl ?_
  refine q_ic1 (pc := 23) (dq D_m_wheel_0_ok 13 rfl) ?_
  refine r_invI (Mc := M_m_refused) (pc := 24) (ci := 11) (rest := []) 0 1 [.int 1] (dq D_m_wheel_0_ok 14 rfl) rfl rfl lc_m_refused lv_m_refused_ ml_m_60 rfl rfl rfl rfl (t_m_refused v0 (1 : Int32) h) (fun r2 h1 => ?_)
  exact r_reti (pc := 27) (dq D_m_wheel_0_ok 15 rfl) rfl
noncomputable def f_m_wheel (v0 : Nat) (v1 : Int32) (v2 : Int32) (h : Hp) : Option (Int32 × Hp) := gd (hS h v0 = some (.inl 11)) (lt (uI h v0 0 0) fun h1 => gd (hS h1 v0 = some (.inl 11)) (bd (f_m_isWheel v0 v1 h1) fun r3 h2 => if r3 = 0 then (b_m_wheel_22 v0 h2) else (bd (f_m_in v2 (0 : Int32) (5 : Int32) h2) fun r5 h4 => if r5 = 0 then (b_m_wheel_22 v0 h4) else (if v2 = 0 then (gd (hS h4 v0 = some (.inl 11)) (bR (hR h4 v0 3) fun x6 => gd (hS h4 x6 = some (.inl 12)) (bR (hR h4 x6 10) fun x7 => gd (ai h4 x7 0 v1) (lt (hI h4 x7 v1.toNatClampNeg) fun x8 => gd (hS h4 v0 = some (.inl 11)) (bd (f_m_good v0 x8 h4) fun r10 h9 => some (r10, h9)))))) else (if v2 = 1 then (gd (hS h4 v0 = some (.inl 11)) (bR (hR h4 v0 3) fun x11 => gd (hS h4 x11 = some (.inl 12)) (bR (hR h4 x11 11) fun x12 => gd (ai h4 x12 0 v1) (lt (hI h4 x12 v1.toNatClampNeg) fun x13 => gd (hS h4 v0 = some (.inl 11)) (bd (f_m_good v0 x13 h4) fun r15 h14 => some (r15, h14)))))) else (if v2 = 2 then (gd (hS h4 v0 = some (.inl 11)) (bR (hR h4 v0 3) fun x16 => gd (hS h4 x16 = some (.inl 12)) (bR (hR h4 x16 12) fun x17 => gd (ai h4 x17 0 v1) (lt (hI h4 x17 v1.toNatClampNeg) fun x18 => gd (hS h4 v0 = some (.inl 11)) (bd (f_m_good v0 x18 h4) fun r20 h19 => some (r20, h19)))))) else (if v2 = 3 then (gd (hS h4 v0 = some (.inl 11)) (bR (hR h4 v0 15) fun x21 => gd (ai h4 x21 0 v1) (lt (hI h4 x21 v1.toNatClampNeg) fun x22 => gd (hS h4 v0 = some (.inl 11)) (bd (f_m_good v0 x22 h4) fun r24 h23 => some (r24, h23))))) else (if v2 = 4 then (gd (hS h4 v0 = some (.inl 11)) (bR (hR h4 v0 3) fun x25 => gd (hS h4 x25 = some (.inl 12)) (bd (f_n_manyGone x25 v1 h4) fun r27 h26 => gd (hS h26 v0 = some (.inl 11)) (bd (f_m_good v0 r27 h26) fun r29 h28 => some (r29, h28))))) else (gd (hS h4 v0 = some (.inl 11)) (bd (f_m_feastsOf v0 v1 h4) fun r31 h30 => gd (hS h30 v0 = some (.inl 11)) (bd (f_m_good v0 r31 h30) fun r33 h32 => some (r33, h32))))))))))))
set_option maxHeartbeats 4000000 in
set_option maxRecDepth 20000 in
theorem t_m_wheel {G : GG} (v0 : Nat) (v1 : Int32) (v2 : Int32) (h : Hp) : Mt G M_m_wheel 2 [.ref v0, .int v1, .int v2] cI h (f_m_wheel v0 v1 v2 h) := by
  refine Mt.ofF (by decide +kernel) rfl (Rt.i rfl rfl) ?_
  show T G M_m_wheel 2 cI 0 [(0, .ref v0), (1, .int v1), (2, .int v2)] [] h _
  unfold f_m_wheel
  refine q_aload_n (pc := 0) (dq D_m_wheel_0_ok 0 rfl) rfl 0 rfl ?_
  refine q_ic0 (pc := 1) (dq D_m_wheel_0_ok 1 rfl) ?_
  refine r_putI (pc := 2) (dq D_m_wheel_0_ok 2 rfl) fp_m_54 rfl rfl (fun h1 => ?_)
  refine q_aload_n (pc := 5) (dq D_m_wheel_0_ok 3 rfl) rfl 0 rfl ?_
  refine q_iload_n (pc := 6) (dq D_m_wheel_0_ok 4 rfl) rfl 1 rfl ?_
  refine r_invI (Mc := M_m_isWheel) (pc := 7) (ci := 11) (rest := []) 0 1 [.int v1] (dq D_m_wheel_0_ok 5 rfl) rfl rfl lc_m_isWheel lv_m_isWheel_ ml_m_357 rfl rfl rfl rfl (t_m_isWheel v0 v1 h1) (fun r3 h2 => ?_)
  refine p_if_eq (pc := 10) 22 (dq D_m_wheel_0_ok 6 rfl) rfl ?_ ?_
  · exact T.lsub [0] rfl (tb_m_wheel_22 v0 h2)
  · refine q_iload_n (pc := 13) (dq D_m_wheel_0_ok 7 rfl) rfl 2 rfl ?_
    refine q_ic0 (pc := 14) (dq D_m_wheel_0_ok 8 rfl) ?_
    refine q_ic5 (pc := 15) (dq D_m_wheel_0_ok 9 rfl) ?_
    refine r_insI (Mc := M_m_in) (pc := 16) (rest := []) 0 3 [.int v2, .int 0, .int 5] (dq D_m_wheel_0_ok 10 rfl) lc_m_in ls_m_in ml_m_133 rfl rfl rfl rfl (t_m_in v2 (0 : Int32) (5 : Int32) h2) (fun r5 h4 => ?_)
    refine p_if_ne (pc := 19) 28 (dq D_m_wheel_0_ok 11 rfl) rfl ?_ ?_
    · refine q_iload_n (pc := 28) (dq D_m_wheel_0_ok 16 rfl) rfl 2 rfl ?_
      refine T.ite (fun e => ?_) (fun n0 => ?_)
      · refine r_tin (pc := 29) (c := 0) 64 (dq D_m_wheel_0_ok 17 rfl) e (by decide) (by decide) rfl rfl ?_
        refine q_aload_n (pc := 64) (dq D_m_wheel_0_ok 18 rfl) rfl 0 rfl ?_
        refine q_aload_n (pc := 65) (dq D_m_wheel_0_ok 19 rfl) rfl 0 rfl ?_
        refine q_getR (pc := 66) (dq D_m_wheel_0_ok 20 rfl) fa_m_348 rfl (fun x6 => ?_)
        refine q_getR (pc := 69) (dq D_m_wheel_0_ok 21 rfl) fa_m_266 rfl (fun x7 => ?_)
        refine q_iload_n (pc := 72) (dq D_m_wheel_0_ok 22 rfl) rfl 1 rfl ?_
        refine r_iald (pc := 73) (dq D_m_wheel_0_ok 23 rfl) (fun x8 => ?_)
        refine r_invI (Mc := M_m_good) (pc := 74) (ci := 11) (rest := []) 0 1 [.int x8] (dq D_m_wheel_0_ok 24 rfl) rfl rfl lc_m_good lv_m_good_ ml_m_64 rfl rfl rfl rfl (t_m_good v0 x8 h4) (fun r10 h9 => ?_)
        exact r_reti (pc := 77) (dq D_m_wheel_0_ok 25 rfl) rfl
      refine T.ite (fun e => ?_) (fun n1 => ?_)
      · refine r_tin (pc := 29) (c := 1) 78 (dq D_m_wheel_0_ok 17 rfl) e (by decide) (by decide) rfl rfl ?_
        refine q_aload_n (pc := 78) (dq D_m_wheel_0_ok 26 rfl) rfl 0 rfl ?_
        refine q_aload_n (pc := 79) (dq D_m_wheel_0_ok 27 rfl) rfl 0 rfl ?_
        refine q_getR (pc := 80) (dq D_m_wheel_0_ok 28 rfl) fa_m_348 rfl (fun x11 => ?_)
        refine q_getR (pc := 83) (dq D_m_wheel_0_ok 29 rfl) fa_m_269 rfl (fun x12 => ?_)
        refine q_iload_n (pc := 86) (dq D_m_wheel_0_ok 30 rfl) rfl 1 rfl ?_
        refine r_iald (pc := 87) (dq D_m_wheel_0_ok 31 rfl) (fun x13 => ?_)
        refine r_invI (Mc := M_m_good) (pc := 88) (ci := 11) (rest := []) 0 1 [.int x13] (dq D_m_wheel_0_ok 32 rfl) rfl rfl lc_m_good lv_m_good_ ml_m_64 rfl rfl rfl rfl (t_m_good v0 x13 h4) (fun r15 h14 => ?_)
        exact r_reti (pc := 91) (dq D_m_wheel_0_ok 33 rfl) rfl
      refine T.ite (fun e => ?_) (fun n2 => ?_)
      · refine r_tin (pc := 29) (c := 2) 92 (dq D_m_wheel_0_ok 17 rfl) e (by decide) (by decide) rfl rfl ?_
        refine q_aload_n (pc := 92) (dq D_m_wheel_0_ok 34 rfl) rfl 0 rfl ?_
        refine q_aload_n (pc := 93) (dq D_m_wheel_0_ok 35 rfl) rfl 0 rfl ?_
        refine q_getR (pc := 94) (dq D_m_wheel_0_ok 36 rfl) fa_m_348 rfl (fun x16 => ?_)
        refine q_getR (pc := 97) (dq D_m_wheel_0_ok 37 rfl) fa_m_271 rfl (fun x17 => ?_)
        refine q_iload_n (pc := 100) (dq D_m_wheel_0_ok 38 rfl) rfl 1 rfl ?_
        refine r_iald (pc := 101) (dq D_m_wheel_0_ok 39 rfl) (fun x18 => ?_)
        refine r_invI (Mc := M_m_good) (pc := 102) (ci := 11) (rest := []) 0 1 [.int x18] (dq D_m_wheel_0_ok 40 rfl) rfl rfl lc_m_good lv_m_good_ ml_m_64 rfl rfl rfl rfl (t_m_good v0 x18 h4) (fun r20 h19 => ?_)
        exact r_reti (pc := 105) (dq D_m_wheel_0_ok 41 rfl) rfl
      refine T.ite (fun e => ?_) (fun n3 => ?_)
      · refine r_tin (pc := 29) (c := 3) 106 (dq D_m_wheel_0_ok 17 rfl) e (by decide) (by decide) rfl rfl ?_
        refine q_aload_n (pc := 106) (dq D_m_wheel_0_ok 42 rfl) rfl 0 rfl ?_
        refine q_aload_n (pc := 107) (dq D_m_wheel_0_ok 43 rfl) rfl 0 rfl ?_
        refine q_getR (pc := 108) (dq D_m_wheel_0_ok 44 rfl) fa_m_17 rfl (fun x21 => ?_)
        refine q_iload_n (pc := 111) (dq D_m_wheel_0_ok 45 rfl) rfl 1 rfl ?_
        refine r_iald (pc := 112) (dq D_m_wheel_0_ok 46 rfl) (fun x22 => ?_)
        refine r_invI (Mc := M_m_good) (pc := 113) (ci := 11) (rest := []) 0 1 [.int x22] (dq D_m_wheel_0_ok 47 rfl) rfl rfl lc_m_good lv_m_good_ ml_m_64 rfl rfl rfl rfl (t_m_good v0 x22 h4) (fun r24 h23 => ?_)
        exact r_reti (pc := 116) (dq D_m_wheel_0_ok 48 rfl) rfl
      refine T.ite (fun e => ?_) (fun n4 => ?_)
      · refine r_tin (pc := 29) (c := 4) 117 (dq D_m_wheel_0_ok 17 rfl) e (by decide) (by decide) rfl rfl ?_
        refine q_aload_n (pc := 117) (dq D_m_wheel_0_ok 49 rfl) rfl 0 rfl ?_
        refine q_aload_n (pc := 118) (dq D_m_wheel_0_ok 50 rfl) rfl 0 rfl ?_
        refine q_getR (pc := 119) (dq D_m_wheel_0_ok 51 rfl) fa_m_348 rfl (fun x25 => ?_)
        refine q_iload_n (pc := 122) (dq D_m_wheel_0_ok 52 rfl) rfl 1 rfl ?_
        refine r_invI (Mc := M_n_manyGone) (pc := 123) (ci := 12) (rest := [.ref v0]) 1 1 [.int v1] (dq D_m_wheel_0_ok 53 rfl) rfl rfl lc_n_manyGone lv_n_manyGone_ ml_m_275 rfl rfl rfl rfl (t_n_manyGone x25 v1 h4) (fun r27 h26 => ?_)
        refine r_invI (Mc := M_m_good) (pc := 126) (ci := 11) (rest := []) 0 1 [.int r27] (dq D_m_wheel_0_ok 54 rfl) rfl rfl lc_m_good lv_m_good_ ml_m_64 rfl rfl rfl rfl (t_m_good v0 r27 h26) (fun r29 h28 => ?_)
        exact r_reti (pc := 129) (dq D_m_wheel_0_ok 55 rfl) rfl
      refine r_tout (pc := 29) 130 (dq D_m_wheel_0_ok 17 rfl) (by have e0 := int_ne (z := 0) n0 (by decide); have e1 := int_ne (z := 1) n1 (by decide); have e2 := int_ne (z := 2) n2 (by decide); have e3 := int_ne (z := 3) n3 (by decide); have e4 := int_ne (z := 4) n4 (by decide); omega) rfl ?_
      refine q_aload_n (pc := 130) (dq D_m_wheel_0_ok 56 rfl) rfl 0 rfl ?_
      refine q_aload_n (pc := 131) (dq D_m_wheel_0_ok 57 rfl) rfl 0 rfl ?_
      refine q_iload_n (pc := 132) (dq D_m_wheel_0_ok 58 rfl) rfl 1 rfl ?_
      refine r_invI (Mc := M_m_feastsOf) (pc := 133) (ci := 11) (rest := [.ref v0]) 1 1 [.int v1] (dq D_m_wheel_0_ok 59 rfl) rfl rfl lc_m_feastsOf lv_m_feastsOf_ ml_m_380 rfl rfl rfl rfl (t_m_feastsOf v0 v1 h4) (fun r31 h30 => ?_)
      refine r_invI (Mc := M_m_good) (pc := 136) (ci := 11) (rest := []) 0 1 [.int r31] (dq D_m_wheel_1_ok 0 rfl) rfl rfl lc_m_good lv_m_good_ ml_m_64 rfl rfl rfl rfl (t_m_good v0 r31 h30) (fun r33 h32 => ?_)
      exact r_reti (pc := 139) (dq D_m_wheel_1_ok 1 rfl) rfl
    · exact T.lsub [0] rfl (tb_m_wheel_22 v0 h4)
noncomputable def b_m_isGone_56 (s0 : Int32) (s1 : Nat) (h : Hp) : Option (Int32 × Hp) := gd (hS h s1 = some (.inl 11)) (bd (f_m_good s1 s0 h) fun r2 h1 => some (r2, h1))
set_option maxHeartbeats 4000000 in
set_option maxRecDepth 20000 in
theorem tb_m_isGone_56 {G : GG} (s0 : Int32) (s1 : Nat) (h : Hp) : T G M_m_isGone 1 cI 56 [] [.int s0, .ref s1] h (b_m_isGone_56 s0 s1 h) := by
  unfold b_m_isGone_56
  refine r_invI (Mc := M_m_good) (pc := 56) (ci := 11) (rest := []) 0 1 [.int s0] (dq D_m_isGone_0_ok 32 rfl) rfl rfl lc_m_good lv_m_good_ ml_m_64 rfl rfl rfl rfl (t_m_good s1 s0 h) (fun r2 h1 => ?_)
  refine q_goto (pc := 59) 67 (dq D_m_isGone_0_ok 33 rfl) rfl ?_
  exact r_reti (pc := 67) (dq D_m_isGone_0_ok 37 rfl) rfl
noncomputable def f_m_isGone (v0 : Nat) (v1 : Int32) (v2 : Int32) (h : Hp) : Option (Int32 × Hp) := gd (hS h v0 = some (.inl 11)) (lt (uI h v0 0 0) fun h1 => gd (hS h1 v0 = some (.inl 11)) (bd (f_m_isWheel v0 v1 h1) fun r3 h2 => if r3 = 0 then (gd (hS h2 v0 = some (.inl 11)) (bd (f_m_refused v0 (1 : Int32) h2) fun r15 h14 => some (r15, h14))) else (gd (hS h2 v0 = some (.inl 11)) (bR (hR h2 v0 3) fun x4 => gd (hS h2 x4 = some (.inl 12)) (bR (hR h2 x4 11) fun x5 => gd (ai h2 x5 0 v1) (lt (hI h2 x5 v1.toNatClampNeg) fun x6 => bd (f_m_in v2 (0 : Int32) (x6 - 1) h2) fun r8 h7 => if r8 = 0 then (gd (hS h7 v0 = some (.inl 11)) (bd (f_m_refused v0 (2 : Int32) h7) fun r10 h9 => some (r10, h9))) else (gd (hS h7 v0 = some (.inl 11)) (bR (hR h7 v0 3) fun x11 => gd (hS h7 x11 = some (.inl 12)) (bd (f_n_isGone x11 v1 v2 h7) fun r13 h12 => if r13 = 0 then (b_m_isGone_56 0 v0 h12) else (b_m_isGone_56 1 v0 h12))))))))))
set_option maxHeartbeats 4000000 in
set_option maxRecDepth 20000 in
theorem t_m_isGone {G : GG} (v0 : Nat) (v1 : Int32) (v2 : Int32) (h : Hp) : Mt G M_m_isGone 1 [.ref v0, .int v1, .int v2] cI h (f_m_isGone v0 v1 v2 h) := by
  refine Mt.ofF (by decide +kernel) rfl (Rt.i rfl rfl) ?_
  show T G M_m_isGone 1 cI 0 [(0, .ref v0), (1, .int v1), (2, .int v2)] [] h _
  unfold f_m_isGone
  refine q_aload_n (pc := 0) (dq D_m_isGone_0_ok 0 rfl) rfl 0 rfl ?_
  refine q_ic0 (pc := 1) (dq D_m_isGone_0_ok 1 rfl) ?_
  refine r_putI (pc := 2) (dq D_m_isGone_0_ok 2 rfl) fp_m_54 rfl rfl (fun h1 => ?_)
  refine q_aload_n (pc := 5) (dq D_m_isGone_0_ok 3 rfl) rfl 0 rfl ?_
  refine q_iload_n (pc := 6) (dq D_m_isGone_0_ok 4 rfl) rfl 1 rfl ?_
  refine r_invI (Mc := M_m_isWheel) (pc := 7) (ci := 11) (rest := []) 0 1 [.int v1] (dq D_m_isGone_0_ok 5 rfl) rfl rfl lc_m_isWheel lv_m_isWheel_ ml_m_357 rfl rfl rfl rfl (t_m_isWheel v0 v1 h1) (fun r3 h2 => ?_)
  refine p_if_ne (pc := 10) 19 (dq D_m_isGone_0_ok 6 rfl) rfl ?_ ?_
  · refine q_iload_n (pc := 19) (dq D_m_isGone_0_ok 11 rfl) rfl 2 rfl ?_
    refine q_ic0 (pc := 20) (dq D_m_isGone_0_ok 12 rfl) ?_
    refine q_aload_n (pc := 21) (dq D_m_isGone_0_ok 13 rfl) rfl 0 rfl ?_
    refine q_getR (pc := 22) (dq D_m_isGone_0_ok 14 rfl) fa_m_348 rfl (fun x4 => ?_)
    refine q_getR (pc := 25) (dq D_m_isGone_0_ok 15 rfl) fa_m_269 rfl (fun x5 => ?_)
    refine q_iload_n (pc := 28) (dq D_m_isGone_0_ok 16 rfl) rfl 1 rfl ?_
    refine r_iald (pc := 29) (dq D_m_isGone_0_ok 17 rfl) (fun x6 => ?_)
    refine q_ic1 (pc := 30) (dq D_m_isGone_0_ok 18 rfl) ?_
    refine q_isub (pc := 31) (dq D_m_isGone_0_ok 19 rfl) ?_
    refine r_insI (Mc := M_m_in) (pc := 32) (rest := []) 0 3 [.int v2, .int 0, .int (x6 - 1)] (dq D_m_isGone_0_ok 20 rfl) lc_m_in ls_m_in ml_m_133 rfl rfl rfl rfl (t_m_in v2 (0 : Int32) (x6 - 1) h2) (fun r8 h7 => ?_)
    refine p_if_eq (pc := 35) 62 (dq D_m_isGone_0_ok 21 rfl) rfl ?_ ?_
    · refine q_aload_n (pc := 62) (dq D_m_isGone_0_ok 34 rfl) rfl 0 rfl ?_
      refine q_ic2 (pc := 63) (dq D_m_isGone_0_ok 35 rfl) ?_
      refine r_invI (Mc := M_m_refused) (pc := 64) (ci := 11) (rest := []) 0 1 [.int 2] (dq D_m_isGone_0_ok 36 rfl) rfl rfl lc_m_refused lv_m_refused_ ml_m_60 rfl rfl rfl rfl (t_m_refused v0 (2 : Int32) h7) (fun r10 h9 => ?_)
      exact r_reti (pc := 67) (dq D_m_isGone_0_ok 37 rfl) rfl
    · refine q_aload_n (pc := 38) (dq D_m_isGone_0_ok 22 rfl) rfl 0 rfl ?_
      refine q_aload_n (pc := 39) (dq D_m_isGone_0_ok 23 rfl) rfl 0 rfl ?_
      refine q_getR (pc := 40) (dq D_m_isGone_0_ok 24 rfl) fa_m_348 rfl (fun x11 => ?_)
      refine q_iload_n (pc := 43) (dq D_m_isGone_0_ok 25 rfl) rfl 1 rfl ?_
      refine q_iload_n (pc := 44) (dq D_m_isGone_0_ok 26 rfl) rfl 2 rfl ?_
      refine r_invI (Mc := M_n_isGone) (pc := 45) (ci := 12) (rest := [.ref v0]) 0 2 [.int v1, .int v2] (dq D_m_isGone_0_ok 27 rfl) rfl rfl lc_n_isGone lv_n_isGone_ ml_m_280 rfl rfl rfl rfl (t_n_isGone x11 v1 v2 h7) (fun r13 h12 => ?_)
      refine p_if_eq (pc := 48) 55 (dq D_m_isGone_0_ok 28 rfl) rfl ?_ ?_
      · refine q_ic0 (pc := 55) (dq D_m_isGone_0_ok 31 rfl) ?_
        exact T.lsub [] rfl (tb_m_isGone_56 0 v0 h12)
      · refine q_ic1 (pc := 51) (dq D_m_isGone_0_ok 29 rfl) ?_
        refine q_goto (pc := 52) 56 (dq D_m_isGone_0_ok 30 rfl) rfl ?_
        exact T.lsub [] rfl (tb_m_isGone_56 1 v0 h12)
  · refine q_aload_n (pc := 13) (dq D_m_isGone_0_ok 7 rfl) rfl 0 rfl ?_
    refine q_ic1 (pc := 14) (dq D_m_isGone_0_ok 8 rfl) ?_
    refine r_invI (Mc := M_m_refused) (pc := 15) (ci := 11) (rest := []) 0 1 [.int 1] (dq D_m_isGone_0_ok 9 rfl) rfl rfl lc_m_refused lv_m_refused_ ml_m_60 rfl rfl rfl rfl (t_m_refused v0 (1 : Int32) h2) (fun r15 h14 => ?_)
    exact r_reti (pc := 18) (dq D_m_isGone_0_ok 10 rfl) rfl
noncomputable def b_m_onNow_35 (k8 : (Nat × Int32 × Int32) → Hp → Option (Int32 × Hp)) (v0 : Nat) (v2 : Int32) (s0 : Int32) (s1 : Int32) (h : Hp) : Option (Int32 × Hp) := lt (s1 ||| s0 : Int32) fun y1 => k8 (v0, y1, v2 + 1) h
set_option maxHeartbeats 4000000 in
set_option maxRecDepth 20000 in
theorem tb_m_onNow_35 {G : GG} {k8 : (Nat × Int32 × Int32) → Hp → Option (Int32 × Hp)} (hk8 : ∀ s h, T G M_m_onNow 2 cI 8 [(0, .ref s.1), (1, .int s.2.1), (2, .int s.2.2)] [] h (k8 s h)) (v0 : Nat) (v2 : Int32) (s0 : Int32) (s1 : Int32) (h : Hp) : T G M_m_onNow 2 cI 35 [(0, .ref v0), (2, .int v2)] [.int s0, .int s1] h (b_m_onNow_35 k8 v0 v2 s0 s1 h) := by
  unfold b_m_onNow_35
  refine q_ior (pc := 35) (dq D_m_onNow_0_ok 21 rfl) ?_
  refine r_nmI (fun y1 => ?_)
  refine q_istore_n (pc := 36) (ls' := [(1, .int y1), (0, .ref v0), (2, .int v2)]) (dq D_m_onNow_0_ok 22 rfl) rfl rfl rfl ?_
  refine q_iinc (pc := 37) (v := (1)) (ls' := [(2, .int (v2 + 1)), (1, .int y1), (0, .ref v0)]) (dq D_m_onNow_0_ok 23 rfl) 2 rfl (by decide) rfl rfl ?_
  refine q_goto (pc := 40) 8 (dq D_m_onNow_0_ok 24 rfl) rfl ?_
  exact T.lsub [2, 1, 0] rfl (hk8 (v0, y1, v2 + 1) h)
noncomputable def b_m_onNow_8 (k8 : (Nat × Int32 × Int32) → Hp → Option (Int32 × Hp)) (v0 : Nat) (v1 : Int32) (v2 : Int32) (h : Hp) : Option (Int32 × Hp) := gd (hS h v0 = some (.inl 11)) (bR (hR h v0 3) fun x1 => gd (hS h x1 = some (.inl 12)) (lt (hI h x1 4) fun x2 => if x2 ≤ v2 then (some (v1, h)) else (gd (hS h v0 = some (.inl 11)) (bd (f_m_isOn v0 v2 h) fun r4 h3 => if r4 = 0 then (b_m_onNow_35 k8 v0 v2 0 v1 h3) else (b_m_onNow_35 k8 v0 v2 ((1 : Int32) <<< (v2 &&& 31)) v1 h3)))))
set_option maxHeartbeats 4000000 in
set_option maxRecDepth 20000 in
theorem tb_m_onNow_8 {G : GG} {k8 : (Nat × Int32 × Int32) → Hp → Option (Int32 × Hp)} (hk8 : ∀ s h, T G M_m_onNow 2 cI 8 [(0, .ref s.1), (1, .int s.2.1), (2, .int s.2.2)] [] h (k8 s h)) (v0 : Nat) (v1 : Int32) (v2 : Int32) (h : Hp) : T G M_m_onNow 2 cI 8 [(0, .ref v0), (1, .int v1), (2, .int v2)] [] h (b_m_onNow_8 k8 v0 v1 v2 h) := by
  unfold b_m_onNow_8
  refine q_iload_n (pc := 8) (dq D_m_onNow_0_ok 6 rfl) rfl 2 rfl ?_
  refine q_aload_n (pc := 9) (dq D_m_onNow_0_ok 7 rfl) rfl 0 rfl ?_
  refine q_getR (pc := 10) (dq D_m_onNow_0_ok 8 rfl) fa_m_348 rfl (fun x1 => ?_)
  refine r_getI (pc := 13) (dq D_m_onNow_0_ok 9 rfl) fa_m_289 rfl (fun x2 => ?_)
  refine q_ic_ge (pc := 16) 43 (dq D_m_onNow_0_ok 10 rfl) rfl ?_ ?_
  · refine q_iload_n (pc := 43) (dq D_m_onNow_0_ok 25 rfl) rfl 1 rfl ?_
    exact r_reti (pc := 44) (dq D_m_onNow_0_ok 26 rfl) rfl
  · refine q_iload_n (pc := 19) (dq D_m_onNow_0_ok 11 rfl) rfl 1 rfl ?_
    refine q_aload_n (pc := 20) (dq D_m_onNow_0_ok 12 rfl) rfl 0 rfl ?_
    refine q_iload_n (pc := 21) (dq D_m_onNow_0_ok 13 rfl) rfl 2 rfl ?_
    refine r_invI (Mc := M_m_isOn) (pc := 22) (ci := 11) (rest := [.int v1]) 1 1 [.int v2] (dq D_m_onNow_0_ok 14 rfl) rfl rfl lc_m_isOn lv_m_isOn_ ml_m_385 rfl rfl rfl rfl (t_m_isOn v0 v2 h) (fun r4 h3 => ?_)
    refine p_if_eq (pc := 25) 34 (dq D_m_onNow_0_ok 15 rfl) rfl ?_ ?_
    · refine q_ic0 (pc := 34) (dq D_m_onNow_0_ok 20 rfl) ?_
      exact T.lsub [0, 2] rfl (tb_m_onNow_35 hk8 v0 v2 0 v1 h3)
    · refine q_ic1 (pc := 28) (dq D_m_onNow_0_ok 16 rfl) ?_
      refine q_iload_n (pc := 29) (dq D_m_onNow_0_ok 17 rfl) rfl 2 rfl ?_
      refine q_ishl (pc := 30) (dq D_m_onNow_0_ok 18 rfl) ?_
      refine q_goto (pc := 31) 35 (dq D_m_onNow_0_ok 19 rfl) rfl ?_
      exact T.lsub [0, 2] rfl (tb_m_onNow_35 hk8 v0 v2 ((1 : Int32) <<< (v2 &&& 31)) v1 h3)
noncomputable def l_m_onNow_8 : Nat → (Nat × Int32 × Int32) → Hp → Option (Int32 × Hp) := lp (fun k8 s h => b_m_onNow_8 k8 s.1 s.2.1 s.2.2 h)
set_option maxHeartbeats 4000000 in
set_option maxRecDepth 20000 in
theorem tl_m_onNow_8 {G : GG} (n : Nat) (s : Nat × Int32 × Int32) (h : Hp) : T G M_m_onNow 2 cI 8 [(0, .ref s.1), (1, .int s.2.1), (2, .int s.2.2)] [] h (l_m_onNow_8 n s h) :=
  T.loop (lsOf := fun s => [(0, .ref s.1), (1, .int s.2.1), (2, .int s.2.2)]) (fun k8 hk8 s h => tb_m_onNow_8 hk8 s.1 s.2.1 s.2.2 h) n s h
noncomputable def f_m_onNow (v0 : Nat) (h : Hp) : Option (Int32 × Hp) := gd (hS h v0 = some (.inl 11)) (bd (f_m_works v0 h) fun _ h1 => lt (0 : Int32) fun y3 => lt (0 : Int32) fun y4 => l_m_onNow_8 FU (v0, y3, y4) h1)
set_option maxHeartbeats 4000000 in
set_option maxRecDepth 20000 in
theorem t_m_onNow {G : GG} (v0 : Nat) (h : Hp) : Mt G M_m_onNow 2 [.ref v0] cI h (f_m_onNow v0 h) := by
  refine Mt.ofF (by decide +kernel) rfl (Rt.i rfl rfl) ?_
  show T G M_m_onNow 2 cI 0 [(0, .ref v0)] [] h _
  unfold f_m_onNow
  refine q_aload_n (pc := 0) (dq D_m_onNow_0_ok 0 rfl) rfl 0 rfl ?_
  refine r_invU (Mc := M_m_works) (pc := 1) (ci := 11) (rest := []) 0 0 [] (dq D_m_onNow_0_ok 1 rfl) rfl rfl lc_m_works lv_m_works_ ml_m_383 rfl rfl rfl rfl (t_m_works v0 h) (fun _ h1 => ?_)
  refine q_ic0 (pc := 4) (dq D_m_onNow_0_ok 2 rfl) ?_
  refine r_nmI (fun y3 => ?_)
  refine q_istore_n (pc := 5) (ls' := [(1, .int y3), (0, .ref v0)]) (dq D_m_onNow_0_ok 3 rfl) rfl rfl rfl ?_
  refine q_ic0 (pc := 6) (dq D_m_onNow_0_ok 4 rfl) ?_
  refine r_nmI (fun y4 => ?_)
  refine q_istore_n (pc := 7) (ls' := [(2, .int y4), (1, .int y3), (0, .ref v0)]) (dq D_m_onNow_0_ok 5 rfl) rfl rfl rfl ?_
  exact T.lsub [2, 1, 0] rfl (tl_m_onNow_8 FU (v0, y3, y4) h1)
noncomputable def b_m_now_75 (s0 : Int32) (s1 : Nat) (h : Hp) : Option (Int32 × Hp) := gd (hS h s1 = some (.inl 11)) (bd (f_m_good s1 s0 h) fun r2 h1 => some (r2, h1))
set_option maxHeartbeats 4000000 in
set_option maxRecDepth 20000 in
theorem tb_m_now_75 {G : GG} (s0 : Int32) (s1 : Nat) (h : Hp) : T G M_m_now 3 cI 75 [] [.int s0, .ref s1] h (b_m_now_75 s0 s1 h) := by
  unfold b_m_now_75
  refine r_invI (Mc := M_m_good) (pc := 75) (ci := 11) (rest := []) 0 1 [.int s0] (dq D_m_now_0_ok 41 rfl) rfl rfl lc_m_good lv_m_good_ ml_m_64 rfl rfl rfl rfl (t_m_good s1 s0 h) (fun r2 h1 => ?_)
  exact r_reti (pc := 78) (dq D_m_now_0_ok 42 rfl) rfl
noncomputable def b_m_now_21 (v0 : Nat) (h : Hp) : Option (Int32 × Hp) := gd (hS h v0 = some (.inl 11)) (bd (f_m_refused v0 (1 : Int32) h) fun r2 h1 => some (r2, h1))
set_option maxHeartbeats 4000000 in
set_option maxRecDepth 20000 in
theorem tb_m_now_21 {G : GG} (v0 : Nat) (h : Hp) : T G M_m_now 3 cI 21 [(0, .ref v0)] [] h (b_m_now_21 v0 h) := by
  unfold b_m_now_21
  refine q_aload_n (pc := 21) (dq D_m_now_0_ok 11 rfl) rfl 0 rfl ?_
  refine q_ic1 (pc := 22) (dq D_m_now_0_ok 12 rfl) ?_
  refine r_invI (Mc := M_m_refused) (pc := 23) (ci := 11) (rest := []) 0 1 [.int 1] (dq D_m_now_0_ok 13 rfl) rfl rfl lc_m_refused lv_m_refused_ ml_m_60 rfl rfl rfl rfl (t_m_refused v0 (1 : Int32) h) (fun r2 h1 => ?_)
  exact r_reti (pc := 26) (dq D_m_now_0_ok 14 rfl) rfl
noncomputable def f_m_now (v0 : Nat) (v1 : Int32) (h : Hp) : Option (Int32 × Hp) := gd (hS h v0 = some (.inl 11)) (lt (uI h v0 0 0) fun h1 => gd (hS h1 v0 = some (.inl 11)) (if hR h1 v0 3 = none then (b_m_now_21 v0 h1) else (bd (f_m_in v1 (0 : Int32) (3 : Int32) h1) fun r4 h3 => if r4 = 0 then (b_m_now_21 v0 h3) else (if v1 = 0 then (gd (hS h3 v0 = some (.inl 11)) (bR (hR h3 v0 15) fun x11 => gd (ai h3 x11 0 5) (lt (hI h3 x11 (5 : Int32).toNatClampNeg) fun x12 => b_m_now_75 x12 v0 h3))) else (if v1 = 1 then (gd (hS h3 v0 = some (.inl 11)) (bR (hR h3 v0 15) fun x9 => gd (ai h3 x9 0 6) (lt (hI h3 x9 (6 : Int32).toNatClampNeg) fun x10 => b_m_now_75 x10 v0 h3))) else (if v1 = 2 then (gd (hS h3 v0 = some (.inl 11)) (bd (f_m_onNow v0 h3) fun r8 h7 => b_m_now_75 r8 v0 h7)) else (gd (hS h3 v0 = some (.inl 11)) (bR (hR h3 v0 15) fun x5 => gd (ai h3 x5 0 7) (lt (hI h3 x5 (7 : Int32).toNatClampNeg) fun x6 => b_m_now_75 x6 v0 h3)))))))))
set_option maxHeartbeats 4000000 in
set_option maxRecDepth 20000 in
theorem t_m_now {G : GG} (v0 : Nat) (v1 : Int32) (h : Hp) : Mt G M_m_now 3 [.ref v0, .int v1] cI h (f_m_now v0 v1 h) := by
  refine Mt.ofF (by decide +kernel) rfl (Rt.i rfl rfl) ?_
  show T G M_m_now 3 cI 0 [(0, .ref v0), (1, .int v1)] [] h _
  unfold f_m_now
  refine q_aload_n (pc := 0) (dq D_m_now_0_ok 0 rfl) rfl 0 rfl ?_
  refine q_ic0 (pc := 1) (dq D_m_now_0_ok 1 rfl) ?_
  refine r_putI (pc := 2) (dq D_m_now_0_ok 2 rfl) fp_m_54 rfl rfl (fun h1 => ?_)
  refine q_aload_n (pc := 5) (dq D_m_now_0_ok 3 rfl) rfl 0 rfl ?_
  refine q_getnu (pc := 6) 21 (dq D_m_now_0_ok 4 rfl) (dq D_m_now_0_ok 5 rfl) rfl fa_m_348 rfl ?_ ?_
  · exact T.lsub [0] rfl (tb_m_now_21 v0 h1)
  · refine q_iload_n (pc := 12) (dq D_m_now_0_ok 6 rfl) rfl 1 rfl ?_
    refine q_ic0 (pc := 13) (dq D_m_now_0_ok 7 rfl) ?_
    refine q_ic3 (pc := 14) (dq D_m_now_0_ok 8 rfl) ?_
    refine r_insI (Mc := M_m_in) (pc := 15) (rest := []) 0 3 [.int v1, .int 0, .int 3] (dq D_m_now_0_ok 9 rfl) lc_m_in ls_m_in ml_m_133 rfl rfl rfl rfl (t_m_in v1 (0 : Int32) (3 : Int32) h1) (fun r4 h3 => ?_)
    refine p_if_ne (pc := 18) 27 (dq D_m_now_0_ok 10 rfl) rfl ?_ ?_
    · refine q_aload_n (pc := 27) (dq D_m_now_0_ok 15 rfl) rfl 0 rfl ?_
      refine q_iload_n (pc := 28) (dq D_m_now_0_ok 16 rfl) rfl 1 rfl ?_
      refine p_if_ne (pc := 29) 41 (dq D_m_now_0_ok 17 rfl) rfl ?_ ?_
      · refine q_iload_n (pc := 41) (dq D_m_now_0_ok 23 rfl) rfl 1 rfl ?_
        refine q_ic1 (pc := 42) (dq D_m_now_0_ok 24 rfl) ?_
        refine q_ic_ne (pc := 43) 56 (dq D_m_now_0_ok 25 rfl) rfl ?_ ?_
        · refine q_iload_n (pc := 56) (dq D_m_now_0_ok 31 rfl) rfl 1 rfl ?_
          refine q_ic2 (pc := 57) (dq D_m_now_0_ok 32 rfl) ?_
          refine q_ic_ne (pc := 58) 68 (dq D_m_now_0_ok 33 rfl) rfl ?_ ?_
          · refine q_aload_n (pc := 68) (dq D_m_now_0_ok 37 rfl) rfl 0 rfl ?_
            refine q_getR (pc := 69) (dq D_m_now_0_ok 38 rfl) fa_m_17 rfl (fun x5 => ?_)
            refine q_bipush (pc := 72) (v := 7) (dq D_m_now_0_ok 39 rfl) (by decide) ?_
            refine r_iald (pc := 74) (dq D_m_now_0_ok 40 rfl) (fun x6 => ?_)
            exact T.lsub [] rfl (tb_m_now_75 x6 v0 h3)
          · refine q_aload_n (pc := 61) (dq D_m_now_0_ok 34 rfl) rfl 0 rfl ?_
            refine r_invI (Mc := M_m_onNow) (pc := 62) (ci := 11) (rest := [.ref v0]) 2 0 [] (dq D_m_now_0_ok 35 rfl) rfl rfl lc_m_onNow lv_m_onNow_ ml_m_388 rfl rfl rfl rfl (t_m_onNow v0 h3) (fun r8 h7 => ?_)
            refine q_goto (pc := 65) 75 (dq D_m_now_0_ok 36 rfl) rfl ?_
            exact T.lsub [] rfl (tb_m_now_75 r8 v0 h7)
        · refine q_aload_n (pc := 46) (dq D_m_now_0_ok 26 rfl) rfl 0 rfl ?_
          refine q_getR (pc := 47) (dq D_m_now_0_ok 27 rfl) fa_m_17 rfl (fun x9 => ?_)
          refine q_bipush (pc := 50) (v := 6) (dq D_m_now_0_ok 28 rfl) (by decide) ?_
          refine r_iald (pc := 52) (dq D_m_now_0_ok 29 rfl) (fun x10 => ?_)
          refine q_goto (pc := 53) 75 (dq D_m_now_0_ok 30 rfl) rfl ?_
          exact T.lsub [] rfl (tb_m_now_75 x10 v0 h3)
      · refine q_aload_n (pc := 32) (dq D_m_now_0_ok 18 rfl) rfl 0 rfl ?_
        refine q_getR (pc := 33) (dq D_m_now_0_ok 19 rfl) fa_m_17 rfl (fun x11 => ?_)
        refine q_ic5 (pc := 36) (dq D_m_now_0_ok 20 rfl) ?_
        refine r_iald (pc := 37) (dq D_m_now_0_ok 21 rfl) (fun x12 => ?_)
        refine q_goto (pc := 38) 75 (dq D_m_now_0_ok 22 rfl) rfl ?_
        exact T.lsub [] rfl (tb_m_now_75 x12 v0 h3)
    · exact T.lsub [0] rfl (tb_m_now_21 v0 h3)
noncomputable def b_m_work_85 (s0 : Int32) (s1 : Nat) (h : Hp) : Option (Int32 × Hp) := gd (hS h s1 = some (.inl 11)) (bd (f_m_good s1 s0 h) fun r2 h1 => some (r2, h1))
set_option maxHeartbeats 4000000 in
set_option maxRecDepth 20000 in
theorem tb_m_work_85 {G : GG} (s0 : Int32) (s1 : Nat) (h : Hp) : T G M_m_work 1 cI 85 [] [.int s0, .ref s1] h (b_m_work_85 s0 s1 h) := by
  unfold b_m_work_85
  refine r_invI (Mc := M_m_good) (pc := 85) (ci := 11) (rest := []) 0 1 [.int s0] (dq D_m_work_0_ok 45 rfl) rfl rfl lc_m_good lv_m_good_ ml_m_64 rfl rfl rfl rfl (t_m_good s1 s0 h) (fun r2 h1 => ?_)
  exact r_reti (pc := 88) (dq D_m_work_0_ok 46 rfl) rfl
noncomputable def b_m_work_36 (v0 : Nat) (h : Hp) : Option (Int32 × Hp) := gd (hS h v0 = some (.inl 11)) (bd (f_m_refused v0 (1 : Int32) h) fun r2 h1 => some (r2, h1))
set_option maxHeartbeats 4000000 in
set_option maxRecDepth 20000 in
theorem tb_m_work_36 {G : GG} (v0 : Nat) (h : Hp) : T G M_m_work 1 cI 36 [(0, .ref v0)] [] h (b_m_work_36 v0 h) := by
  unfold b_m_work_36
  refine q_aload_n (pc := 36) (dq D_m_work_0_ok 18 rfl) rfl 0 rfl ?_
  refine q_ic1 (pc := 37) (dq D_m_work_0_ok 19 rfl) ?_
  refine r_invI (Mc := M_m_refused) (pc := 38) (ci := 11) (rest := []) 0 1 [.int 1] (dq D_m_work_0_ok 20 rfl) rfl rfl lc_m_refused lv_m_refused_ ml_m_60 rfl rfl rfl rfl (t_m_refused v0 (1 : Int32) h) (fun r2 h1 => ?_)
  exact r_reti (pc := 41) (dq D_m_work_0_ok 21 rfl) rfl
noncomputable def f_m_work (v0 : Nat) (v1 : Int32) (v2 : Int32) (h : Hp) : Option (Int32 × Hp) := gd (hS h v0 = some (.inl 11)) (lt (uI h v0 0 0) fun h1 => gd (hS h1 v0 = some (.inl 11)) (if hR h1 v0 3 = none then (b_m_work_36 v0 h1) else (if v1 < 0 then (b_m_work_36 v0 h1) else (gd (hS h1 v0 = some (.inl 11)) (bR (hR h1 v0 3) fun x3 => gd (hS h1 x3 = some (.inl 12)) (lt (hI h1 x3 5) fun x4 => if x4 ≤ v1 then (b_m_work_36 v0 h1) else (bd (f_m_in v2 (0 : Int32) (2 : Int32) h1) fun r6 h5 => if r6 = 0 then (b_m_work_36 v0 h5) else (if v2 = 0 then (gd (hS h5 v0 = some (.inl 11)) (bR (hR h5 v0 3) fun x13 => gd (hS h5 x13 = some (.inl 12)) (bR (hR h5 x13 19) fun x14 => gd (ai h5 x14 0 v1) (lt (hI h5 x14 v1.toNatClampNeg) fun x15 => b_m_work_85 x15 v0 h5)))) else (if v2 = 1 then (gd (hS h5 v0 = some (.inl 11)) (bR (hR h5 v0 3) fun x10 => gd (hS h5 x10 = some (.inl 12)) (bR (hR h5 x10 20) fun x11 => gd (ai h5 x11 0 v1) (lt (hI h5 x11 v1.toNatClampNeg) fun x12 => b_m_work_85 x12 v0 h5)))) else (gd (hS h5 v0 = some (.inl 11)) (bR (hR h5 v0 3) fun x7 => gd (hS h5 x7 = some (.inl 12)) (bR (hR h5 x7 21) fun x8 => gd (ai h5 x8 0 v1) (lt (hI h5 x8 v1.toNatClampNeg) fun x9 => b_m_work_85 x9 v0 h5)))))))))))))
set_option maxHeartbeats 4000000 in
set_option maxRecDepth 20000 in
theorem t_m_work {G : GG} (v0 : Nat) (v1 : Int32) (v2 : Int32) (h : Hp) : Mt G M_m_work 1 [.ref v0, .int v1, .int v2] cI h (f_m_work v0 v1 v2 h) := by
  refine Mt.ofF (by decide +kernel) rfl (Rt.i rfl rfl) ?_
  show T G M_m_work 1 cI 0 [(0, .ref v0), (1, .int v1), (2, .int v2)] [] h _
  unfold f_m_work
  refine q_aload_n (pc := 0) (dq D_m_work_0_ok 0 rfl) rfl 0 rfl ?_
  refine q_ic0 (pc := 1) (dq D_m_work_0_ok 1 rfl) ?_
  refine r_putI (pc := 2) (dq D_m_work_0_ok 2 rfl) fp_m_54 rfl rfl (fun h1 => ?_)
  refine q_aload_n (pc := 5) (dq D_m_work_0_ok 3 rfl) rfl 0 rfl ?_
  refine q_getnu (pc := 6) 36 (dq D_m_work_0_ok 4 rfl) (dq D_m_work_0_ok 5 rfl) rfl fa_m_348 rfl ?_ ?_
  · exact T.lsub [0] rfl (tb_m_work_36 v0 h1)
  · refine q_iload_n (pc := 12) (dq D_m_work_0_ok 6 rfl) rfl 1 rfl ?_
    refine p_if_lt (pc := 13) 36 (dq D_m_work_0_ok 7 rfl) rfl ?_ ?_
    · exact T.lsub [0] rfl (tb_m_work_36 v0 h1)
    · refine q_iload_n (pc := 16) (dq D_m_work_0_ok 8 rfl) rfl 1 rfl ?_
      refine q_aload_n (pc := 17) (dq D_m_work_0_ok 9 rfl) rfl 0 rfl ?_
      refine q_getR (pc := 18) (dq D_m_work_0_ok 10 rfl) fa_m_348 rfl (fun x3 => ?_)
      refine r_getI (pc := 21) (dq D_m_work_0_ok 11 rfl) fa_m_300 rfl (fun x4 => ?_)
      refine q_ic_ge (pc := 24) 36 (dq D_m_work_0_ok 12 rfl) rfl ?_ ?_
      · exact T.lsub [0] rfl (tb_m_work_36 v0 h1)
      · refine q_iload_n (pc := 27) (dq D_m_work_0_ok 13 rfl) rfl 2 rfl ?_
        refine q_ic0 (pc := 28) (dq D_m_work_0_ok 14 rfl) ?_
        refine q_ic2 (pc := 29) (dq D_m_work_0_ok 15 rfl) ?_
        refine r_insI (Mc := M_m_in) (pc := 30) (rest := []) 0 3 [.int v2, .int 0, .int 2] (dq D_m_work_0_ok 16 rfl) lc_m_in ls_m_in ml_m_133 rfl rfl rfl rfl (t_m_in v2 (0 : Int32) (2 : Int32) h1) (fun r6 h5 => ?_)
        refine p_if_ne (pc := 33) 42 (dq D_m_work_0_ok 17 rfl) rfl ?_ ?_
        · refine q_aload_n (pc := 42) (dq D_m_work_0_ok 22 rfl) rfl 0 rfl ?_
          refine q_iload_n (pc := 43) (dq D_m_work_0_ok 23 rfl) rfl 2 rfl ?_
          refine p_if_ne (pc := 44) 59 (dq D_m_work_0_ok 24 rfl) rfl ?_ ?_
          · refine q_iload_n (pc := 59) (dq D_m_work_0_ok 31 rfl) rfl 2 rfl ?_
            refine q_ic1 (pc := 60) (dq D_m_work_0_ok 32 rfl) ?_
            refine q_ic_ne (pc := 61) 76 (dq D_m_work_0_ok 33 rfl) rfl ?_ ?_
            · refine q_aload_n (pc := 76) (dq D_m_work_0_ok 40 rfl) rfl 0 rfl ?_
              refine q_getR (pc := 77) (dq D_m_work_0_ok 41 rfl) fa_m_348 rfl (fun x7 => ?_)
              refine q_getR (pc := 80) (dq D_m_work_0_ok 42 rfl) fa_m_314 rfl (fun x8 => ?_)
              refine q_iload_n (pc := 83) (dq D_m_work_0_ok 43 rfl) rfl 1 rfl ?_
              refine r_iald (pc := 84) (dq D_m_work_0_ok 44 rfl) (fun x9 => ?_)
              exact T.lsub [] rfl (tb_m_work_85 x9 v0 h5)
            · refine q_aload_n (pc := 64) (dq D_m_work_0_ok 34 rfl) rfl 0 rfl ?_
              refine q_getR (pc := 65) (dq D_m_work_0_ok 35 rfl) fa_m_348 rfl (fun x10 => ?_)
              refine q_getR (pc := 68) (dq D_m_work_0_ok 36 rfl) fa_m_312 rfl (fun x11 => ?_)
              refine q_iload_n (pc := 71) (dq D_m_work_0_ok 37 rfl) rfl 1 rfl ?_
              refine r_iald (pc := 72) (dq D_m_work_0_ok 38 rfl) (fun x12 => ?_)
              refine q_goto (pc := 73) 85 (dq D_m_work_0_ok 39 rfl) rfl ?_
              exact T.lsub [] rfl (tb_m_work_85 x12 v0 h5)
          · refine q_aload_n (pc := 47) (dq D_m_work_0_ok 25 rfl) rfl 0 rfl ?_
            refine q_getR (pc := 48) (dq D_m_work_0_ok 26 rfl) fa_m_348 rfl (fun x13 => ?_)
            refine q_getR (pc := 51) (dq D_m_work_0_ok 27 rfl) fa_m_310 rfl (fun x14 => ?_)
            refine q_iload_n (pc := 54) (dq D_m_work_0_ok 28 rfl) rfl 1 rfl ?_
            refine r_iald (pc := 55) (dq D_m_work_0_ok 29 rfl) (fun x15 => ?_)
            refine q_goto (pc := 56) 85 (dq D_m_work_0_ok 30 rfl) rfl ?_
            exact T.lsub [] rfl (tb_m_work_85 x15 v0 h5)
        · exact T.lsub [0] rfl (tb_m_work_36 v0 h5)
noncomputable def f_m_refusesDays (v0 : Nat) (v1 : Int32) (v2 : Int32) (v3 : Int32) (v4 : Int32) (h : Hp) : Option (Int32 × Hp) := if v1 = 0 then (some (1, h)) else (bd (f_m_in v2 v3 v4 h) fun r2 h1 => if r2 = 0 then (some (2, h1)) else (some (0, h1)))
set_option maxHeartbeats 4000000 in
set_option maxRecDepth 20000 in
theorem t_m_refusesDays {G : GG} (v0 : Nat) (v1 : Int32) (v2 : Int32) (v3 : Int32) (v4 : Int32) (h : Hp) : Mt G M_m_refusesDays 1 [.ref v0, .int v1, .int v2, .int v3, .int v4] cI h (f_m_refusesDays v0 v1 v2 v3 v4 h) := by
  refine Mt.ofF (by decide +kernel) rfl (Rt.i rfl rfl) ?_
  show T G M_m_refusesDays 1 cI 0 [(0, .ref v0), (1, .int v1), (2, .int v2), (3, .int v3), (4, .int v4)] [] h _
  unfold f_m_refusesDays
  refine q_iload_n (pc := 0) (dq D_m_refusesDays_0_ok 0 rfl) rfl 1 rfl ?_
  refine p_if_ne (pc := 1) 8 (dq D_m_refusesDays_0_ok 1 rfl) rfl ?_ ?_
  · refine q_iload_n (pc := 8) (dq D_m_refusesDays_0_ok 4 rfl) rfl 2 rfl ?_
    refine q_iload_n (pc := 9) (dq D_m_refusesDays_0_ok 5 rfl) rfl 3 rfl ?_
    refine q_iload (pc := 10) (dq D_m_refusesDays_0_ok 6 rfl) 4 rfl ?_
    refine r_insI (Mc := M_m_in) (pc := 12) (rest := []) 0 3 [.int v2, .int v3, .int v4] (dq D_m_refusesDays_0_ok 7 rfl) lc_m_in ls_m_in ml_m_133 rfl rfl rfl rfl (t_m_in v2 v3 v4 h) (fun r2 h1 => ?_)
    refine p_if_eq (pc := 15) 22 (dq D_m_refusesDays_0_ok 8 rfl) rfl ?_ ?_
    · refine q_ic2 (pc := 22) (dq D_m_refusesDays_0_ok 11 rfl) ?_
      exact r_reti (pc := 23) (dq D_m_refusesDays_0_ok 12 rfl) rfl
    · refine q_ic0 (pc := 18) (dq D_m_refusesDays_0_ok 9 rfl) ?_
      refine q_goto (pc := 19) 23 (dq D_m_refusesDays_0_ok 10 rfl) rfl ?_
      exact r_reti (pc := 23) (dq D_m_refusesDays_0_ok 12 rfl) rfl
  · refine q_ic1 (pc := 4) (dq D_m_refusesDays_0_ok 2 rfl) ?_
    refine q_goto (pc := 5) 23 (dq D_m_refusesDays_0_ok 3 rfl) rfl ?_
    exact r_reti (pc := 23) (dq D_m_refusesDays_0_ok 12 rfl) rfl
noncomputable def f_m_toothIn (v0 : Nat) (v1 : Int32) (v2 : Int32) (h : Hp) : Option (Int32 × Hp) := gd (hS h v0 = some (.inl 11)) (lt (uI h v0 0 0) fun h1 => gd (hS h1 v0 = some (.inl 11)) (bd (f_m_isWheel v0 v1 h1) fun r3 h2 => gd (hS h2 v0 = some (.inl 11)) (bd (f_m_refusesDays v0 r3 v2 (0 : Int32) (1000000 : Int32) h2) fun r5 h4 => if r5 ≤ 0 then (gd (hS h4 v0 = some (.inl 11)) (bR (hR h4 v0 15) fun x6 => gd (ai h4 x6 0 v1) (lt (hI h4 x6 v1.toNatClampNeg) fun x7 => gd (hS h4 v0 = some (.inl 11)) (bd (f_m_goings v0 v1 v2 h4) fun r9 h8 => gd (hS h8 v0 = some (.inl 11)) (bd (f_m_toothBehind v0 v1 x7 r9 h8) fun r11 h10 => gd (hS h10 v0 = some (.inl 11)) (bd (f_m_good v0 r11 h10) fun r13 h12 => some (r13, h12))))))) else (gd (hS h4 v0 = some (.inl 11)) (bd (f_m_refused v0 r5 h4) fun r15 h14 => some (r15, h14))))))
set_option maxHeartbeats 4000000 in
set_option maxRecDepth 20000 in
theorem t_m_toothIn {G : GG} (v0 : Nat) (v1 : Int32) (v2 : Int32) (h : Hp) : Mt G M_m_toothIn 3 [.ref v0, .int v1, .int v2] cI h (f_m_toothIn v0 v1 v2 h) := by
  refine Mt.ofF (by decide +kernel) rfl (Rt.i rfl rfl) ?_
  show T G M_m_toothIn 3 cI 0 [(0, .ref v0), (1, .int v1), (2, .int v2)] [] h _
  unfold f_m_toothIn
  refine q_aload_n (pc := 0) (dq D_m_toothIn_0_ok 0 rfl) rfl 0 rfl ?_
  refine q_ic0 (pc := 1) (dq D_m_toothIn_0_ok 1 rfl) ?_
  refine r_putI (pc := 2) (dq D_m_toothIn_0_ok 2 rfl) fp_m_54 rfl rfl (fun h1 => ?_)
  refine q_aload_n (pc := 5) (dq D_m_toothIn_0_ok 3 rfl) rfl 0 rfl ?_
  refine q_aload_n (pc := 6) (dq D_m_toothIn_0_ok 4 rfl) rfl 0 rfl ?_
  refine q_iload_n (pc := 7) (dq D_m_toothIn_0_ok 5 rfl) rfl 1 rfl ?_
  refine r_invI (Mc := M_m_isWheel) (pc := 8) (ci := 11) (rest := [.ref v0]) 0 1 [.int v1] (dq D_m_toothIn_0_ok 6 rfl) rfl rfl lc_m_isWheel lv_m_isWheel_ ml_m_357 rfl rfl rfl rfl (t_m_isWheel v0 v1 h1) (fun r3 h2 => ?_)
  refine q_iload_n (pc := 11) (dq D_m_toothIn_0_ok 7 rfl) rfl 2 rfl ?_
  refine q_ic0 (pc := 12) (dq D_m_toothIn_0_ok 8 rfl) ?_
  refine q_ldcw (pc := 13) (v := 1000000) (dq D_m_toothIn_0_ok 9 rfl) lk_m_391 ?_
  refine r_invI (Mc := M_m_refusesDays) (pc := 16) (ci := 11) (rest := []) 1 4 [.int r3, .int v2, .int 0, .int 1000000] (dq D_m_toothIn_0_ok 10 rfl) rfl rfl lc_m_refusesDays lv_m_refusesDays_ ml_m_392 rfl rfl rfl rfl (t_m_refusesDays v0 r3 v2 (0 : Int32) (1000000 : Int32) h2) (fun r5 h4 => ?_)
  refine q_istore_n (pc := 19) (ls' := [(3, .int r5), (0, .ref v0), (1, .int v1), (2, .int v2)]) (dq D_m_toothIn_0_ok 11 rfl) rfl rfl rfl ?_
  refine q_iload_n (pc := 20) (dq D_m_toothIn_0_ok 12 rfl) rfl 0 rfl ?_
  refine p_if_le (pc := 21) 32 (dq D_m_toothIn_0_ok 13 rfl) rfl ?_ ?_
  · refine q_aload_n (pc := 32) (dq D_m_toothIn_0_ok 18 rfl) rfl 1 rfl ?_
    refine q_aload_n (pc := 33) (dq D_m_toothIn_0_ok 19 rfl) rfl 1 rfl ?_
    refine q_iload_n (pc := 34) (dq D_m_toothIn_0_ok 20 rfl) rfl 2 rfl ?_
    refine q_aload_n (pc := 35) (dq D_m_toothIn_0_ok 21 rfl) rfl 1 rfl ?_
    refine q_getR (pc := 36) (dq D_m_toothIn_0_ok 22 rfl) fa_m_17 rfl (fun x6 => ?_)
    refine q_iload_n (pc := 39) (dq D_m_toothIn_0_ok 23 rfl) rfl 2 rfl ?_
    refine r_iald (pc := 40) (dq D_m_toothIn_0_ok 24 rfl) (fun x7 => ?_)
    refine q_aload_n (pc := 41) (dq D_m_toothIn_0_ok 25 rfl) rfl 1 rfl ?_
    refine q_iload_n (pc := 42) (dq D_m_toothIn_0_ok 26 rfl) rfl 2 rfl ?_
    refine q_iload_n (pc := 43) (dq D_m_toothIn_0_ok 27 rfl) rfl 3 rfl ?_
    refine r_invI (Mc := M_m_goings) (pc := 44) (ci := 11) (rest := [.int x7, .int v1, .ref v0, .ref v0]) 0 2 [.int v1, .int v2] (dq D_m_toothIn_0_ok 28 rfl) rfl rfl lc_m_goings lv_m_goings_ ml_m_396 rfl rfl rfl rfl (t_m_goings v0 v1 v2 h4) (fun r9 h8 => ?_)
    refine r_invI (Mc := M_m_toothBehind) (pc := 47) (ci := 11) (rest := [.ref v0]) 2 3 [.int v1, .int x7, .int r9] (dq D_m_toothIn_0_ok 29 rfl) rfl rfl lc_m_toothBehind lv_m_toothBehind_ ml_m_399 rfl rfl rfl rfl (t_m_toothBehind v0 v1 x7 r9 h8) (fun r11 h10 => ?_)
    refine r_invI (Mc := M_m_good) (pc := 50) (ci := 11) (rest := []) 0 1 [.int r11] (dq D_m_toothIn_0_ok 30 rfl) rfl rfl lc_m_good lv_m_good_ ml_m_64 rfl rfl rfl rfl (t_m_good v0 r11 h10) (fun r13 h12 => ?_)
    exact r_reti (pc := 53) (dq D_m_toothIn_0_ok 31 rfl) rfl
  · refine q_aload_n (pc := 24) (dq D_m_toothIn_0_ok 14 rfl) rfl 1 rfl ?_
    refine q_iload_n (pc := 25) (dq D_m_toothIn_0_ok 15 rfl) rfl 0 rfl ?_
    refine r_invI (Mc := M_m_refused) (pc := 26) (ci := 11) (rest := []) 0 1 [.int r5] (dq D_m_toothIn_0_ok 16 rfl) rfl rfl lc_m_refused lv_m_refused_ ml_m_60 rfl rfl rfl rfl (t_m_refused v0 r5 h4) (fun r15 h14 => ?_)
    refine q_goto (pc := 29) 53 (dq D_m_toothIn_0_ok 17 rfl) rfl ?_
    exact r_reti (pc := 53) (dq D_m_toothIn_0_ok 31 rfl) rfl
noncomputable def b_m_jerks_77 (k49 : (Nat × Int32 × Int32 × Int32 × Int32) → Hp → Option (Int32 × Hp)) (v0 : Nat) (v1 : Int32) (v4 : Int32) (v6 : Int32) (s0 : Int32) (s1 : Int32) (h : Hp) : Option (Int32 × Hp) := lt (s1 + s0 : Int32) fun y1 => k49 (v0, v1, v4, y1, v6 + (-1)) h
set_option maxHeartbeats 4000000 in
set_option maxRecDepth 20000 in
theorem tb_m_jerks_77 {G : GG} {k49 : (Nat × Int32 × Int32 × Int32 × Int32) → Hp → Option (Int32 × Hp)} (hk49 : ∀ s h, T G M_m_jerks 2 cI 49 [(0, .ref s.1), (1, .int s.2.1), (4, .int s.2.2.1), (5, .int s.2.2.2.1), (6, .int s.2.2.2.2)] [] h (k49 s h)) (v0 : Nat) (v1 : Int32) (v4 : Int32) (v6 : Int32) (s0 : Int32) (s1 : Int32) (h : Hp) : T G M_m_jerks 2 cI 77 [(0, .ref v0), (1, .int v1), (4, .int v4), (6, .int v6)] [.int s0, .int s1] h (b_m_jerks_77 k49 v0 v1 v4 v6 s0 s1 h) := by
  unfold b_m_jerks_77
  refine q_iadd (pc := 77) (dq D_m_jerks_0_ok 44 rfl) ?_
  refine r_nmI (fun y1 => ?_)
  refine q_istore (pc := 78) (ls' := [(5, .int y1), (0, .ref v0), (1, .int v1), (4, .int v4), (6, .int v6)]) (dq D_m_jerks_0_ok 45 rfl) rfl rfl ?_
  refine q_iinc (pc := 80) (v := (-1)) (ls' := [(6, .int (v6 + (-1))), (5, .int y1), (0, .ref v0), (1, .int v1), (4, .int v4)]) (dq D_m_jerks_0_ok 46 rfl) 4 rfl (by decide) rfl rfl ?_
  refine q_goto (pc := 83) 49 (dq D_m_jerks_0_ok 47 rfl) rfl ?_
  exact T.lsub [2, 3, 4, 1, 0] rfl (hk49 (v0, v1, v4, y1, v6 + (-1)) h)
noncomputable def b_m_jerks_49 (k49 : (Nat × Int32 × Int32 × Int32 × Int32) → Hp → Option (Int32 × Hp)) (v0 : Nat) (v1 : Int32) (v4 : Int32) (v5 : Int32) (v6 : Int32) (h : Hp) : Option (Int32 × Hp) := if v6 ≤ 0 then (gd (hS h v0 = some (.inl 11)) (bd (f_m_good v0 v5 h) fun r2 h1 => some (r2, h1))) else (gd (hS h v0 = some (.inl 11)) (bd (f_m_goesOnce v0 v1 v4 h) fun r4 h3 => gd (hS h3 v0 = some (.inl 11)) (lt (hI h3 v0 21) fun x5 => if x5 = 0 then (b_m_jerks_77 k49 v0 v1 r4 v6 0 v5 h3) else (b_m_jerks_77 k49 v0 v1 r4 v6 1 v5 h3))))
set_option maxHeartbeats 4000000 in
set_option maxRecDepth 20000 in
theorem tb_m_jerks_49 {G : GG} {k49 : (Nat × Int32 × Int32 × Int32 × Int32) → Hp → Option (Int32 × Hp)} (hk49 : ∀ s h, T G M_m_jerks 2 cI 49 [(0, .ref s.1), (1, .int s.2.1), (4, .int s.2.2.1), (5, .int s.2.2.2.1), (6, .int s.2.2.2.2)] [] h (k49 s h)) (v0 : Nat) (v1 : Int32) (v4 : Int32) (v5 : Int32) (v6 : Int32) (h : Hp) : T G M_m_jerks 2 cI 49 [(0, .ref v0), (1, .int v1), (4, .int v4), (5, .int v5), (6, .int v6)] [] h (b_m_jerks_49 k49 v0 v1 v4 v5 v6 h) := by
  unfold b_m_jerks_49
  refine q_iload (pc := 49) (dq D_m_jerks_0_ok 30 rfl) 4 rfl ?_
  refine p_if_le (pc := 51) 86 (dq D_m_jerks_0_ok 31 rfl) rfl ?_ ?_
  · refine q_aload_n (pc := 86) (dq D_m_jerks_0_ok 48 rfl) rfl 0 rfl ?_
    refine q_iload (pc := 87) (dq D_m_jerks_0_ok 49 rfl) 3 rfl ?_
    refine r_invI (Mc := M_m_good) (pc := 89) (ci := 11) (rest := []) 0 1 [.int v5] (dq D_m_jerks_0_ok 50 rfl) rfl rfl lc_m_good lv_m_good_ ml_m_64 rfl rfl rfl rfl (t_m_good v0 v5 h) (fun r2 h1 => ?_)
    exact r_reti (pc := 92) (dq D_m_jerks_0_ok 51 rfl) rfl
  · refine q_aload_n (pc := 54) (dq D_m_jerks_0_ok 32 rfl) rfl 0 rfl ?_
    refine q_iload_n (pc := 55) (dq D_m_jerks_0_ok 33 rfl) rfl 1 rfl ?_
    refine q_iload (pc := 56) (dq D_m_jerks_0_ok 34 rfl) 2 rfl ?_
    refine r_invI (Mc := M_m_goesOnce) (pc := 58) (ci := 11) (rest := []) 1 2 [.int v1, .int v4] (dq D_m_jerks_0_ok 35 rfl) rfl rfl lc_m_goesOnce lv_m_goesOnce_ ml_m_374 rfl rfl rfl rfl (t_m_goesOnce v0 v1 v4 h) (fun r4 h3 => ?_)
    refine q_istore (pc := 61) (ls' := [(4, .int r4), (0, .ref v0), (1, .int v1), (5, .int v5), (6, .int v6)]) (dq D_m_jerks_0_ok 36 rfl) rfl rfl ?_
    refine q_iload (pc := 63) (dq D_m_jerks_0_ok 37 rfl) 3 rfl ?_
    refine q_aload_n (pc := 65) (dq D_m_jerks_0_ok 38 rfl) rfl 1 rfl ?_
    refine r_getI (pc := 66) (dq D_m_jerks_0_ok 39 rfl) fa_m_363 rfl (fun x5 => ?_)
    refine p_if_eq (pc := 69) 76 (dq D_m_jerks_0_ok 40 rfl) rfl ?_ ?_
    · refine q_ic0 (pc := 76) (dq D_m_jerks_0_ok 43 rfl) ?_
      exact T.lsub [1, 2, 0, 4] rfl (tb_m_jerks_77 hk49 v0 v1 r4 v6 0 v5 h3)
    · refine q_ic1 (pc := 72) (dq D_m_jerks_0_ok 41 rfl) ?_
      refine q_goto (pc := 73) 77 (dq D_m_jerks_0_ok 42 rfl) rfl ?_
      exact T.lsub [1, 2, 0, 4] rfl (tb_m_jerks_77 hk49 v0 v1 r4 v6 1 v5 h3)
noncomputable def l_m_jerks_49 : Nat → (Nat × Int32 × Int32 × Int32 × Int32) → Hp → Option (Int32 × Hp) := lp (fun k49 s h => b_m_jerks_49 k49 s.1 s.2.1 s.2.2.1 s.2.2.2.1 s.2.2.2.2 h)
set_option maxHeartbeats 4000000 in
set_option maxRecDepth 20000 in
theorem tl_m_jerks_49 {G : GG} (n : Nat) (s : Nat × Int32 × Int32 × Int32 × Int32) (h : Hp) : T G M_m_jerks 2 cI 49 [(0, .ref s.1), (1, .int s.2.1), (4, .int s.2.2.1), (5, .int s.2.2.2.1), (6, .int s.2.2.2.2)] [] h (l_m_jerks_49 n s h) :=
  T.loop (lsOf := fun s => [(0, .ref s.1), (1, .int s.2.1), (4, .int s.2.2.1), (5, .int s.2.2.2.1), (6, .int s.2.2.2.2)]) (fun k49 hk49 s h => tb_m_jerks_49 hk49 s.1 s.2.1 s.2.2.1 s.2.2.2.1 s.2.2.2.2 h) n s h
noncomputable def f_m_jerks (v0 : Nat) (v1 : Int32) (v2 : Int32) (h : Hp) : Option (Int32 × Hp) := gd (hS h v0 = some (.inl 11)) (lt (uI h v0 0 0) fun h1 => gd (hS h1 v0 = some (.inl 11)) (bd (f_m_isWheel v0 v1 h1) fun r3 h2 => gd (hS h2 v0 = some (.inl 11)) (bd (f_m_refusesDays v0 r3 v2 (0 : Int32) (5000 : Int32) h2) fun r5 h4 => if r5 ≤ 0 then (gd (hS h4 v0 = some (.inl 11)) (bR (hR h4 v0 15) fun x6 => gd (ai h4 x6 0 v1) (lt (hI h4 x6 v1.toNatClampNeg) fun x7 => lt (0 : Int32) fun y8 => gd (hS h4 v0 = some (.inl 11)) (bd (f_m_goings v0 v1 v2 h4) fun r10 h9 => l_m_jerks_49 FU (v0, v1, x7, y8, r10) h9)))) else (gd (hS h4 v0 = some (.inl 11)) (bd (f_m_refused v0 r5 h4) fun r12 h11 => some (r12, h11))))))
set_option maxHeartbeats 4000000 in
set_option maxRecDepth 20000 in
theorem t_m_jerks {G : GG} (v0 : Nat) (v1 : Int32) (v2 : Int32) (h : Hp) : Mt G M_m_jerks 2 [.ref v0, .int v1, .int v2] cI h (f_m_jerks v0 v1 v2 h) := by
  refine Mt.ofF (by decide +kernel) rfl (Rt.i rfl rfl) ?_
  show T G M_m_jerks 2 cI 0 [(0, .ref v0), (1, .int v1), (2, .int v2)] [] h _
  unfold f_m_jerks
  refine q_aload_n (pc := 0) (dq D_m_jerks_0_ok 0 rfl) rfl 0 rfl ?_
  refine q_ic0 (pc := 1) (dq D_m_jerks_0_ok 1 rfl) ?_
  refine r_putI (pc := 2) (dq D_m_jerks_0_ok 2 rfl) fp_m_54 rfl rfl (fun h1 => ?_)
  refine q_aload_n (pc := 5) (dq D_m_jerks_0_ok 3 rfl) rfl 0 rfl ?_
  refine q_aload_n (pc := 6) (dq D_m_jerks_0_ok 4 rfl) rfl 0 rfl ?_
  refine q_iload_n (pc := 7) (dq D_m_jerks_0_ok 5 rfl) rfl 1 rfl ?_
  refine r_invI (Mc := M_m_isWheel) (pc := 8) (ci := 11) (rest := [.ref v0]) 0 1 [.int v1] (dq D_m_jerks_0_ok 6 rfl) rfl rfl lc_m_isWheel lv_m_isWheel_ ml_m_357 rfl rfl rfl rfl (t_m_isWheel v0 v1 h1) (fun r3 h2 => ?_)
  refine q_iload_n (pc := 11) (dq D_m_jerks_0_ok 7 rfl) rfl 2 rfl ?_
  refine q_ic0 (pc := 12) (dq D_m_jerks_0_ok 8 rfl) ?_
  refine q_sipush (pc := 13) (v := 5000) (dq D_m_jerks_0_ok 9 rfl) (by decide) ?_
  refine r_invI (Mc := M_m_refusesDays) (pc := 16) (ci := 11) (rest := []) 1 4 [.int r3, .int v2, .int 0, .int 5000] (dq D_m_jerks_0_ok 10 rfl) rfl rfl lc_m_refusesDays lv_m_refusesDays_ ml_m_392 rfl rfl rfl rfl (t_m_refusesDays v0 r3 v2 (0 : Int32) (5000 : Int32) h2) (fun r5 h4 => ?_)
  refine q_istore_n (pc := 19) (ls' := [(3, .int r5), (0, .ref v0), (1, .int v1), (2, .int v2)]) (dq D_m_jerks_0_ok 11 rfl) rfl rfl rfl ?_
  refine q_iload_n (pc := 20) (dq D_m_jerks_0_ok 12 rfl) rfl 0 rfl ?_
  refine p_if_le (pc := 21) 30 (dq D_m_jerks_0_ok 13 rfl) rfl ?_ ?_
  · refine q_aload_n (pc := 30) (dq D_m_jerks_0_ok 18 rfl) rfl 1 rfl ?_
    refine q_getR (pc := 31) (dq D_m_jerks_0_ok 19 rfl) fa_m_17 rfl (fun x6 => ?_)
    refine q_iload_n (pc := 34) (dq D_m_jerks_0_ok 20 rfl) rfl 2 rfl ?_
    refine r_iald (pc := 35) (dq D_m_jerks_0_ok 21 rfl) (fun x7 => ?_)
    refine q_istore (pc := 36) (ls' := [(4, .int x7), (3, .int r5), (0, .ref v0), (1, .int v1), (2, .int v2)]) (dq D_m_jerks_0_ok 22 rfl) rfl rfl ?_
    refine q_ic0 (pc := 38) (dq D_m_jerks_0_ok 23 rfl) ?_
    refine r_nmI (fun y8 => ?_)
    refine q_istore (pc := 39) (ls' := [(5, .int y8), (4, .int x7), (3, .int r5), (0, .ref v0), (1, .int v1), (2, .int v2)]) (dq D_m_jerks_0_ok 24 rfl) rfl rfl ?_
    refine q_aload_n (pc := 41) (dq D_m_jerks_0_ok 25 rfl) rfl 3 rfl ?_
    refine q_iload_n (pc := 42) (dq D_m_jerks_0_ok 26 rfl) rfl 4 rfl ?_
    refine q_iload_n (pc := 43) (dq D_m_jerks_0_ok 27 rfl) rfl 5 rfl ?_
    refine r_invI (Mc := M_m_goings) (pc := 44) (ci := 11) (rest := []) 0 2 [.int v1, .int v2] (dq D_m_jerks_0_ok 28 rfl) rfl rfl lc_m_goings lv_m_goings_ ml_m_396 rfl rfl rfl rfl (t_m_goings v0 v1 v2 h4) (fun r10 h9 => ?_)
    refine q_istore (pc := 47) (ls' := [(6, .int r10), (5, .int y8), (4, .int x7), (3, .int r5), (0, .ref v0), (1, .int v1), (2, .int v2)]) (dq D_m_jerks_0_ok 29 rfl) rfl rfl ?_
    exact T.lsub [4, 5, 2, 1, 0] rfl (tl_m_jerks_49 FU (v0, v1, x7, y8, r10) h9)
  · refine q_aload_n (pc := 24) (dq D_m_jerks_0_ok 14 rfl) rfl 1 rfl ?_
    refine q_iload_n (pc := 25) (dq D_m_jerks_0_ok 15 rfl) rfl 0 rfl ?_
    refine r_invI (Mc := M_m_refused) (pc := 26) (ci := 11) (rest := []) 0 1 [.int r5] (dq D_m_jerks_0_ok 16 rfl) rfl rfl lc_m_refused lv_m_refused_ ml_m_60 rfl rfl rfl rfl (t_m_refused v0 r5 h4) (fun r12 h11 => ?_)
    exact r_reti (pc := 29) (dq D_m_jerks_0_ok 17 rfl) rfl
noncomputable def b_m_comesRound_116 (s0 : Int32) (s1 : Nat) (h : Hp) : Option (Int32 × Hp) := gd (hS h s1 = some (.inl 11)) (bd (f_m_good s1 s0 h) fun r2 h1 => some (r2, h1))
set_option maxHeartbeats 4000000 in
set_option maxRecDepth 20000 in
theorem tb_m_comesRound_116 {G : GG} (s0 : Int32) (s1 : Nat) (h : Hp) : T G M_m_comesRound 2 cI 116 [] [.int s0, .ref s1] h (b_m_comesRound_116 s0 s1 h) := by
  unfold b_m_comesRound_116
  refine r_invI (Mc := M_m_good) (pc := 116) (ci := 11) (rest := []) 0 1 [.int s0] (dq D_m_comesRound_1_ok 9 rfl) rfl rfl lc_m_good lv_m_good_ ml_m_64 rfl rfl rfl rfl (t_m_good s1 s0 h) (fun r2 h1 => ?_)
  exact r_reti (pc := 119) (dq D_m_comesRound_1_ok 10 rfl) rfl
noncomputable def b_m_comesRound_65 (k65 : (Nat × Int32 × Int32 × Int32) → Hp → Option (Int32 × Hp)) (v0 : Nat) (v1 : Int32) (v2 : Int32) (v3 : Int32) (h : Hp) : Option (Int32 × Hp) := gd (hS h v0 = some (.inl 11)) (bR (hR h v0 3) fun x1 => gd (hS h x1 = some (.inl 12)) (bR (hR h x1 11) fun x2 => gd (ai h x2 0 v1) (lt (hI h x2 v1.toNatClampNeg) fun x3 => if x3 < v3 then (gd (hS h v0 = some (.inl 11)) (bd (f_m_good v0 ((-2)) h) fun r5 h4 => some (r5, h4))) else (gd (hS h v0 = some (.inl 11)) (bd (f_m_goesOnce v0 v1 v2 h) fun r7 h6 => gd (hS h6 v0 = some (.inl 11)) (bR (hR h6 v0 15) fun x8 => gd (ai h6 x8 0 v1) (lt (hI h6 x8 v1.toNatClampNeg) fun x9 => if r7 = x9 then (gd (hS h6 v0 = some (.inl 11)) (bR (hR h6 v0 3) fun x10 => gd (hS h6 x10 = some (.inl 12)) (bR (hR h6 x10 10) fun x11 => gd (ai h6 x11 0 v1) (lt (hI h6 x11 v1.toNatClampNeg) fun x12 => if x12 = 3 then (b_m_comesRound_116 (2 * v3) v0 h6) else (b_m_comesRound_116 v3 v0 h6))))) else (k65 (v0, v1, r7, v3 + 1) h6))))))))
set_option maxHeartbeats 4000000 in
set_option maxRecDepth 20000 in
theorem tb_m_comesRound_65 {G : GG} {k65 : (Nat × Int32 × Int32 × Int32) → Hp → Option (Int32 × Hp)} (hk65 : ∀ s h, T G M_m_comesRound 2 cI 65 [(0, .ref s.1), (1, .int s.2.1), (2, .int s.2.2.1), (3, .int s.2.2.2)] [] h (k65 s h)) (v0 : Nat) (v1 : Int32) (v2 : Int32) (v3 : Int32) (h : Hp) : T G M_m_comesRound 2 cI 65 [(0, .ref v0), (1, .int v1), (2, .int v2), (3, .int v3)] [] h (b_m_comesRound_65 k65 v0 v1 v2 v3 h) := by
  unfold b_m_comesRound_65
  refine q_iload_n (pc := 65) (dq D_m_comesRound_0_ok 38 rfl) rfl 3 rfl ?_
  refine q_aload_n (pc := 66) (dq D_m_comesRound_0_ok 39 rfl) rfl 0 rfl ?_
  refine q_getR (pc := 67) (dq D_m_comesRound_0_ok 40 rfl) fa_m_348 rfl (fun x1 => ?_)
  refine q_getR (pc := 70) (dq D_m_comesRound_0_ok 41 rfl) fa_m_269 rfl (fun x2 => ?_)
  refine q_iload_n (pc := 73) (dq D_m_comesRound_0_ok 42 rfl) rfl 1 rfl ?_
  refine r_iald (pc := 74) (dq D_m_comesRound_0_ok 43 rfl) (fun x3 => ?_)
  refine q_ic_gt (pc := 75) 126 (dq D_m_comesRound_0_ok 44 rfl) rfl ?_ ?_
  · refine q_aload_n (pc := 126) (dq D_m_comesRound_1_ok 13 rfl) rfl 0 rfl ?_
    refine q_bipush (pc := 127) (v := (-2)) (dq D_m_comesRound_1_ok 14 rfl) (by decide) ?_
    refine r_invI (Mc := M_m_good) (pc := 129) (ci := 11) (rest := []) 0 1 [.int ((-2))] (dq D_m_comesRound_1_ok 15 rfl) rfl rfl lc_m_good lv_m_good_ ml_m_64 rfl rfl rfl rfl (t_m_good v0 ((-2)) h) (fun r5 h4 => ?_)
    exact r_reti (pc := 132) (dq D_m_comesRound_1_ok 16 rfl) rfl
  · refine q_aload_n (pc := 78) (dq D_m_comesRound_0_ok 45 rfl) rfl 0 rfl ?_
    refine q_iload_n (pc := 79) (dq D_m_comesRound_0_ok 46 rfl) rfl 1 rfl ?_
    refine q_iload_n (pc := 80) (dq D_m_comesRound_0_ok 47 rfl) rfl 2 rfl ?_
    refine r_invI (Mc := M_m_goesOnce) (pc := 81) (ci := 11) (rest := []) 1 2 [.int v1, .int v2] (dq D_m_comesRound_0_ok 48 rfl) rfl rfl lc_m_goesOnce lv_m_goesOnce_ ml_m_374 rfl rfl rfl rfl (t_m_goesOnce v0 v1 v2 h) (fun r7 h6 => ?_)
    refine q_istore_n (pc := 84) (ls' := [(2, .int r7), (0, .ref v0), (1, .int v1), (3, .int v3)]) (dq D_m_comesRound_0_ok 49 rfl) rfl rfl rfl ?_
    refine q_iload_n (pc := 85) (dq D_m_comesRound_0_ok 50 rfl) rfl 0 rfl ?_
    refine q_aload_n (pc := 86) (dq D_m_comesRound_0_ok 51 rfl) rfl 1 rfl ?_
    refine q_getR (pc := 87) (dq D_m_comesRound_0_ok 52 rfl) fa_m_17 rfl (fun x8 => ?_)
    refine q_iload_n (pc := 90) (dq D_m_comesRound_0_ok 53 rfl) rfl 2 rfl ?_
    refine r_iald (pc := 91) (dq D_m_comesRound_0_ok 54 rfl) (fun x9 => ?_)
    refine q_ic_ne (pc := 92) 120 (dq D_m_comesRound_0_ok 55 rfl) rfl ?_ ?_
    · refine q_iinc (pc := 120) (v := (1)) (ls' := [(3, .int (v3 + 1)), (2, .int r7), (0, .ref v0), (1, .int v1)]) (dq D_m_comesRound_1_ok 11 rfl) 3 rfl (by decide) rfl rfl ?_
      refine q_goto (pc := 123) 65 (dq D_m_comesRound_1_ok 12 rfl) rfl ?_
      exact T.lsub [2, 3, 1, 0] rfl (hk65 (v0, v1, r7, v3 + 1) h6)
    · refine q_aload_n (pc := 95) (dq D_m_comesRound_0_ok 56 rfl) rfl 1 rfl ?_
      refine q_aload_n (pc := 96) (dq D_m_comesRound_0_ok 57 rfl) rfl 1 rfl ?_
      refine q_getR (pc := 97) (dq D_m_comesRound_0_ok 58 rfl) fa_m_348 rfl (fun x10 => ?_)
      refine q_getR (pc := 100) (dq D_m_comesRound_0_ok 59 rfl) fa_m_266 rfl (fun x11 => ?_)
      refine q_iload_n (pc := 103) (dq D_m_comesRound_1_ok 0 rfl) rfl 2 rfl ?_
      refine r_iald (pc := 104) (dq D_m_comesRound_1_ok 1 rfl) (fun x12 => ?_)
      refine q_ic3 (pc := 105) (dq D_m_comesRound_1_ok 2 rfl) ?_
      refine q_ic_ne (pc := 106) 115 (dq D_m_comesRound_1_ok 3 rfl) rfl ?_ ?_
      · refine q_iload_n (pc := 115) (dq D_m_comesRound_1_ok 8 rfl) rfl 3 rfl ?_
        exact T.lsub [] rfl (tb_m_comesRound_116 v3 v0 h6)
      · refine q_ic2 (pc := 109) (dq D_m_comesRound_1_ok 4 rfl) ?_
        refine q_iload_n (pc := 110) (dq D_m_comesRound_1_ok 5 rfl) rfl 3 rfl ?_
        refine q_imul (pc := 111) (dq D_m_comesRound_1_ok 6 rfl) ?_
        refine q_goto (pc := 112) 116 (dq D_m_comesRound_1_ok 7 rfl) rfl ?_
        exact T.lsub [] rfl (tb_m_comesRound_116 (2 * v3) v0 h6)
noncomputable def l_m_comesRound_65 : Nat → (Nat × Int32 × Int32 × Int32) → Hp → Option (Int32 × Hp) := lp (fun k65 s h => b_m_comesRound_65 k65 s.1 s.2.1 s.2.2.1 s.2.2.2 h)
set_option maxHeartbeats 4000000 in
set_option maxRecDepth 20000 in
theorem tl_m_comesRound_65 {G : GG} (n : Nat) (s : Nat × Int32 × Int32 × Int32) (h : Hp) : T G M_m_comesRound 2 cI 65 [(0, .ref s.1), (1, .int s.2.1), (2, .int s.2.2.1), (3, .int s.2.2.2)] [] h (l_m_comesRound_65 n s h) :=
  T.loop (lsOf := fun s => [(0, .ref s.1), (1, .int s.2.1), (2, .int s.2.2.1), (3, .int s.2.2.2)]) (fun k65 hk65 s h => tb_m_comesRound_65 hk65 s.1 s.2.1 s.2.2.1 s.2.2.2 h) n s h
noncomputable def f_m_comesRound (v0 : Nat) (v1 : Int32) (h : Hp) : Option (Int32 × Hp) := gd (hS h v0 = some (.inl 11)) (lt (uI h v0 0 0) fun h1 => gd (hS h1 v0 = some (.inl 11)) (bd (f_m_isWheel v0 v1 h1) fun r3 h2 => if r3 = 0 then (gd (hS h2 v0 = some (.inl 11)) (bd (f_m_refused v0 (1 : Int32) h2) fun r17 h16 => some (r17, h16))) else (gd (hS h2 v0 = some (.inl 11)) (bR (hR h2 v0 3) fun x4 => gd (hS h2 x4 = some (.inl 12)) (bR (hR h2 x4 10) fun x5 => gd (ai h2 x5 0 v1) (lt (hI h2 x5 v1.toNatClampNeg) fun x6 => if x6 = 2 then (gd (hS h2 v0 = some (.inl 11)) (bR (hR h2 v0 15) fun x10 => gd (ai h2 x10 0 6) (lt (hI h2 x10 (6 : Int32).toNatClampNeg) fun x11 => if x11 ≤ 0 then (gd (hS h2 v0 = some (.inl 11)) (bd (f_m_good v0 (1 : Int32) h2) fun r13 h12 => some (r13, h12))) else (gd (hS h2 v0 = some (.inl 11)) (bd (f_m_refused v0 (5 : Int32) h2) fun r15 h14 => some (r15, h14)))))) else (gd (hS h2 v0 = some (.inl 11)) (bR (hR h2 v0 15) fun x7 => gd (ai h2 x7 0 v1) (lt (hI h2 x7 v1.toNatClampNeg) fun x8 => lt (1 : Int32) fun y9 => l_m_comesRound_65 FU (v0, v1, x8, y9) h2)))))))))
set_option maxHeartbeats 4000000 in
set_option maxRecDepth 20000 in
theorem t_m_comesRound {G : GG} (v0 : Nat) (v1 : Int32) (h : Hp) : Mt G M_m_comesRound 2 [.ref v0, .int v1] cI h (f_m_comesRound v0 v1 h) := by
  refine Mt.ofF (by decide +kernel) rfl (Rt.i rfl rfl) ?_
  show T G M_m_comesRound 2 cI 0 [(0, .ref v0), (1, .int v1)] [] h _
  unfold f_m_comesRound
  refine q_aload_n (pc := 0) (dq D_m_comesRound_0_ok 0 rfl) rfl 0 rfl ?_
  refine q_ic0 (pc := 1) (dq D_m_comesRound_0_ok 1 rfl) ?_
  refine r_putI (pc := 2) (dq D_m_comesRound_0_ok 2 rfl) fp_m_54 rfl rfl (fun h1 => ?_)
  refine q_aload_n (pc := 5) (dq D_m_comesRound_0_ok 3 rfl) rfl 0 rfl ?_
  refine q_iload_n (pc := 6) (dq D_m_comesRound_0_ok 4 rfl) rfl 1 rfl ?_
  refine r_invI (Mc := M_m_isWheel) (pc := 7) (ci := 11) (rest := []) 0 1 [.int v1] (dq D_m_comesRound_0_ok 5 rfl) rfl rfl lc_m_isWheel lv_m_isWheel_ ml_m_357 rfl rfl rfl rfl (t_m_isWheel v0 v1 h1) (fun r3 h2 => ?_)
  refine p_if_ne (pc := 10) 19 (dq D_m_comesRound_0_ok 6 rfl) rfl ?_ ?_
  · refine q_aload_n (pc := 19) (dq D_m_comesRound_0_ok 11 rfl) rfl 0 rfl ?_
    refine q_getR (pc := 20) (dq D_m_comesRound_0_ok 12 rfl) fa_m_348 rfl (fun x4 => ?_)
    refine q_getR (pc := 23) (dq D_m_comesRound_0_ok 13 rfl) fa_m_266 rfl (fun x5 => ?_)
    refine q_iload_n (pc := 26) (dq D_m_comesRound_0_ok 14 rfl) rfl 1 rfl ?_
    refine r_iald (pc := 27) (dq D_m_comesRound_0_ok 15 rfl) (fun x6 => ?_)
    refine q_ic2 (pc := 28) (dq D_m_comesRound_0_ok 16 rfl) ?_
    refine q_ic_ne (pc := 29) 56 (dq D_m_comesRound_0_ok 17 rfl) rfl ?_ ?_
    · refine q_aload_n (pc := 56) (dq D_m_comesRound_0_ok 31 rfl) rfl 0 rfl ?_
      refine q_getR (pc := 57) (dq D_m_comesRound_0_ok 32 rfl) fa_m_17 rfl (fun x7 => ?_)
      refine q_iload_n (pc := 60) (dq D_m_comesRound_0_ok 33 rfl) rfl 1 rfl ?_
      refine r_iald (pc := 61) (dq D_m_comesRound_0_ok 34 rfl) (fun x8 => ?_)
      refine q_istore_n (pc := 62) (ls' := [(2, .int x8), (0, .ref v0), (1, .int v1)]) (dq D_m_comesRound_0_ok 35 rfl) rfl rfl rfl ?_
      refine q_ic1 (pc := 63) (dq D_m_comesRound_0_ok 36 rfl) ?_
      refine r_nmI (fun y9 => ?_)
      refine q_istore_n (pc := 64) (ls' := [(3, .int y9), (2, .int x8), (0, .ref v0), (1, .int v1)]) (dq D_m_comesRound_0_ok 37 rfl) rfl rfl rfl ?_
      exact T.lsub [2, 3, 1, 0] rfl (tl_m_comesRound_65 FU (v0, v1, x8, y9) h2)
    · refine q_aload_n (pc := 32) (dq D_m_comesRound_0_ok 18 rfl) rfl 0 rfl ?_
      refine q_getR (pc := 33) (dq D_m_comesRound_0_ok 19 rfl) fa_m_17 rfl (fun x10 => ?_)
      refine q_bipush (pc := 36) (v := 6) (dq D_m_comesRound_0_ok 20 rfl) (by decide) ?_
      refine r_iald (pc := 38) (dq D_m_comesRound_0_ok 21 rfl) (fun x11 => ?_)
      refine p_if_le (pc := 39) 50 (dq D_m_comesRound_0_ok 22 rfl) rfl ?_ ?_
      · refine q_aload_n (pc := 50) (dq D_m_comesRound_0_ok 27 rfl) rfl 0 rfl ?_
        refine q_ic1 (pc := 51) (dq D_m_comesRound_0_ok 28 rfl) ?_
        refine r_invI (Mc := M_m_good) (pc := 52) (ci := 11) (rest := []) 0 1 [.int 1] (dq D_m_comesRound_0_ok 29 rfl) rfl rfl lc_m_good lv_m_good_ ml_m_64 rfl rfl rfl rfl (t_m_good v0 (1 : Int32) h2) (fun r13 h12 => ?_)
        exact r_reti (pc := 55) (dq D_m_comesRound_0_ok 30 rfl) rfl
      · refine q_aload_n (pc := 42) (dq D_m_comesRound_0_ok 23 rfl) rfl 0 rfl ?_
        refine q_ic5 (pc := 43) (dq D_m_comesRound_0_ok 24 rfl) ?_
        refine r_invI (Mc := M_m_refused) (pc := 44) (ci := 11) (rest := []) 0 1 [.int 5] (dq D_m_comesRound_0_ok 25 rfl) rfl rfl lc_m_refused lv_m_refused_ ml_m_60 rfl rfl rfl rfl (t_m_refused v0 (5 : Int32) h2) (fun r15 h14 => ?_)
        refine q_goto (pc := 47) 55 (dq D_m_comesRound_0_ok 26 rfl) rfl ?_
        exact r_reti (pc := 55) (dq D_m_comesRound_0_ok 30 rfl) rfl
  · refine q_aload_n (pc := 13) (dq D_m_comesRound_0_ok 7 rfl) rfl 0 rfl ?_
    refine q_ic1 (pc := 14) (dq D_m_comesRound_0_ok 8 rfl) ?_
    refine r_invI (Mc := M_m_refused) (pc := 15) (ci := 11) (rest := []) 0 1 [.int 1] (dq D_m_comesRound_0_ok 9 rfl) rfl rfl lc_m_refused lv_m_refused_ ml_m_60 rfl rfl rfl rfl (t_m_refused v0 (1 : Int32) h2) (fun r17 h16 => ?_)
    exact r_reti (pc := 18) (dq D_m_comesRound_0_ok 10 rfl) rfl
noncomputable def b_m_idle_102 (k70 : (Nat × Int32 × Int64 × Int32 × Int32) → Hp → Option (Int32 × Hp)) (v0 : Nat) (v1 : Int32) (v3 : Int64) (v6 : Int32) (s0 : Int32) (s1 : Int32) (h : Hp) : Option (Int32 × Hp) := lt (s1 + s0 : Int32) fun y1 => k70 (v0, v1, v3, y1, v6 + 1) h
set_option maxHeartbeats 4000000 in
set_option maxRecDepth 20000 in
theorem tb_m_idle_102 {G : GG} {k70 : (Nat × Int32 × Int64 × Int32 × Int32) → Hp → Option (Int32 × Hp)} (hk70 : ∀ s h, T G M_m_idle 2 cI 70 [(0, .ref s.1), (1, .int s.2.1), (3, .long s.2.2.1), (5, .int s.2.2.2.1), (6, .int s.2.2.2.2)] [] h (k70 s h)) (v0 : Nat) (v1 : Int32) (v3 : Int64) (v6 : Int32) (s0 : Int32) (s1 : Int32) (h : Hp) : T G M_m_idle 2 cI 102 [(0, .ref v0), (1, .int v1), (3, .long v3), (6, .int v6)] [.int s0, .int s1] h (b_m_idle_102 k70 v0 v1 v3 v6 s0 s1 h) := by
  unfold b_m_idle_102
  refine q_iadd (pc := 102) (dq D_m_idle_1_ok 3 rfl) ?_
  refine r_nmI (fun y1 => ?_)
  refine q_istore (pc := 103) (ls' := [(5, .int y1), (0, .ref v0), (1, .int v1), (3, .long v3), (6, .int v6)]) (dq D_m_idle_1_ok 4 rfl) rfl rfl ?_
  refine q_iinc (pc := 105) (v := (1)) (ls' := [(6, .int (v6 + 1)), (5, .int y1), (0, .ref v0), (1, .int v1), (3, .long v3)]) (dq D_m_idle_1_ok 5 rfl) 4 rfl (by decide) rfl rfl ?_
  refine q_goto (pc := 108) 70 (dq D_m_idle_1_ok 6 rfl) rfl ?_
  exact T.lsub [2, 3, 4, 1, 0] rfl (hk70 (v0, v1, v3, y1, v6 + 1) h)
noncomputable def b_m_idle_70 (k70 : (Nat × Int32 × Int64 × Int32 × Int32) → Hp → Option (Int32 × Hp)) (v0 : Nat) (v1 : Int32) (v3 : Int64) (v5 : Int32) (v6 : Int32) (h : Hp) : Option (Int32 × Hp) := gd (hS h v0 = some (.inl 11)) (bR (hR h v0 3) fun x1 => gd (hS h x1 = some (.inl 12)) (bR (hR h x1 11) fun x2 => gd (ai h x2 0 v1) (lt (hI h x2 v1.toNatClampNeg) fun x3 => if x3 ≤ v6 then (gd (hS h v0 = some (.inl 11)) (bd (f_m_good v0 v5 h) fun r5 h4 => some (r5, h4))) else (if (lg_cmp ((v3 >>> (v6.toInt64 &&& 63)) &&& 1) 0) = 0 then (b_m_idle_102 k70 v0 v1 v3 v6 1 v5 h) else (b_m_idle_102 k70 v0 v1 v3 v6 0 v5 h)))))
set_option maxHeartbeats 4000000 in
set_option maxRecDepth 20000 in
theorem tb_m_idle_70 {G : GG} {k70 : (Nat × Int32 × Int64 × Int32 × Int32) → Hp → Option (Int32 × Hp)} (hk70 : ∀ s h, T G M_m_idle 2 cI 70 [(0, .ref s.1), (1, .int s.2.1), (3, .long s.2.2.1), (5, .int s.2.2.2.1), (6, .int s.2.2.2.2)] [] h (k70 s h)) (v0 : Nat) (v1 : Int32) (v3 : Int64) (v5 : Int32) (v6 : Int32) (h : Hp) : T G M_m_idle 2 cI 70 [(0, .ref v0), (1, .int v1), (3, .long v3), (5, .int v5), (6, .int v6)] [] h (b_m_idle_70 k70 v0 v1 v3 v5 v6 h) := by
  unfold b_m_idle_70
  refine q_iload (pc := 70) (dq D_m_idle_0_ok 44 rfl) 4 rfl ?_
  refine q_aload_n (pc := 72) (dq D_m_idle_0_ok 45 rfl) rfl 0 rfl ?_
  refine q_getR (pc := 73) (dq D_m_idle_0_ok 46 rfl) fa_m_348 rfl (fun x1 => ?_)
  refine q_getR (pc := 76) (dq D_m_idle_0_ok 47 rfl) fa_m_269 rfl (fun x2 => ?_)
  refine q_iload_n (pc := 79) (dq D_m_idle_0_ok 48 rfl) rfl 1 rfl ?_
  refine r_iald (pc := 80) (dq D_m_idle_0_ok 49 rfl) (fun x3 => ?_)
  refine q_ic_ge (pc := 81) 111 (dq D_m_idle_0_ok 50 rfl) rfl ?_ ?_
  · refine q_aload_n (pc := 111) (dq D_m_idle_1_ok 7 rfl) rfl 0 rfl ?_
    refine q_iload (pc := 112) (dq D_m_idle_1_ok 8 rfl) 3 rfl ?_
    refine r_invI (Mc := M_m_good) (pc := 114) (ci := 11) (rest := []) 0 1 [.int v5] (dq D_m_idle_1_ok 9 rfl) rfl rfl lc_m_good lv_m_good_ ml_m_64 rfl rfl rfl rfl (t_m_good v0 v5 h) (fun r5 h4 => ?_)
    exact r_reti (pc := 117) (dq D_m_idle_1_ok 10 rfl) rfl
  · refine q_iload (pc := 84) (dq D_m_idle_0_ok 51 rfl) 3 rfl ?_
    refine q_lload_n (pc := 86) (dq D_m_idle_0_ok 52 rfl) rfl 2 rfl ?_
    refine q_iload (pc := 87) (dq D_m_idle_0_ok 53 rfl) 4 rfl ?_
    refine q_lshr (pc := 89) (dq D_m_idle_0_ok 54 rfl) ?_
    refine q_lconst (pc := 90) (v := 1) (dq D_m_idle_0_ok 55 rfl) (by decide) ?_
    refine q_land (pc := 91) (dq D_m_idle_0_ok 56 rfl) ?_
    refine q_lconst (pc := 92) (v := 0) (dq D_m_idle_0_ok 57 rfl) (by decide) ?_
    refine q_lcmp (pc := 93) (dq D_m_idle_0_ok 58 rfl) ?_
    refine p_if_ne (pc := 94) 101 (dq D_m_idle_0_ok 59 rfl) rfl ?_ ?_
    · refine q_ic0 (pc := 101) (dq D_m_idle_1_ok 2 rfl) ?_
      exact T.lsub [0, 1, 2, 4] rfl (tb_m_idle_102 hk70 v0 v1 v3 v6 0 v5 h)
    · refine q_ic1 (pc := 97) (dq D_m_idle_1_ok 0 rfl) ?_
      refine q_goto (pc := 98) 102 (dq D_m_idle_1_ok 1 rfl) rfl ?_
      exact T.lsub [0, 1, 2, 4] rfl (tb_m_idle_102 hk70 v0 v1 v3 v6 1 v5 h)
noncomputable def l_m_idle_70 : Nat → (Nat × Int32 × Int64 × Int32 × Int32) → Hp → Option (Int32 × Hp) := lp (fun k70 s h => b_m_idle_70 k70 s.1 s.2.1 s.2.2.1 s.2.2.2.1 s.2.2.2.2 h)
set_option maxHeartbeats 4000000 in
set_option maxRecDepth 20000 in
theorem tl_m_idle_70 {G : GG} (n : Nat) (s : Nat × Int32 × Int64 × Int32 × Int32) (h : Hp) : T G M_m_idle 2 cI 70 [(0, .ref s.1), (1, .int s.2.1), (3, .long s.2.2.1), (5, .int s.2.2.2.1), (6, .int s.2.2.2.2)] [] h (l_m_idle_70 n s h) :=
  T.loop (lsOf := fun s => [(0, .ref s.1), (1, .int s.2.1), (3, .long s.2.2.1), (5, .int s.2.2.2.1), (6, .int s.2.2.2.2)]) (fun k70 hk70 s h => tb_m_idle_70 hk70 s.1 s.2.1 s.2.2.1 s.2.2.2.1 s.2.2.2.2 h) n s h
noncomputable def b_m_idle_40 (k40 : (Nat × Int32 × Int32 × Int64 × Int32) → Hp → Option (Int32 × Hp)) (v0 : Nat) (v1 : Int32) (v2 : Int32) (v3 : Int64) (v5 : Int32) (h : Hp) : Option (Int32 × Hp) := if v5 ≤ 0 then (lt (0 : Int32) fun y1 => lt (0 : Int32) fun y2 => l_m_idle_70 FU (v0, v1, v3, y1, y2) h) else (gd (hS h v0 = some (.inl 11)) (bd (f_m_goesOnce v0 v1 v2 h) fun r4 h3 => lt (v3 ||| ((1 : Int64) <<< (r4.toInt64 &&& 63)) : Int64) fun y5 => k40 (v0, v1, r4, y5, v5 + (-1)) h3))
set_option maxHeartbeats 4000000 in
set_option maxRecDepth 20000 in
theorem tb_m_idle_40 {G : GG} {k40 : (Nat × Int32 × Int32 × Int64 × Int32) → Hp → Option (Int32 × Hp)} (hk40 : ∀ s h, T G M_m_idle 2 cI 40 [(0, .ref s.1), (1, .int s.2.1), (2, .int s.2.2.1), (3, .long s.2.2.2.1), (5, .int s.2.2.2.2)] [] h (k40 s h)) (v0 : Nat) (v1 : Int32) (v2 : Int32) (v3 : Int64) (v5 : Int32) (h : Hp) : T G M_m_idle 2 cI 40 [(0, .ref v0), (1, .int v1), (2, .int v2), (3, .long v3), (5, .int v5)] [] h (b_m_idle_40 k40 v0 v1 v2 v3 v5 h) := by
  unfold b_m_idle_40
  refine q_iload (pc := 40) (dq D_m_idle_0_ok 25 rfl) 4 rfl ?_
  refine p_if_le (pc := 42) 64 (dq D_m_idle_0_ok 26 rfl) rfl ?_ ?_
  · refine q_ic0 (pc := 64) (dq D_m_idle_0_ok 40 rfl) ?_
    refine r_nmI (fun y1 => ?_)
    refine q_istore (pc := 65) (ls' := [(5, .int y1), (0, .ref v0), (1, .int v1), (2, .int v2), (3, .long v3)]) (dq D_m_idle_0_ok 41 rfl) rfl rfl ?_
    refine q_ic0 (pc := 67) (dq D_m_idle_0_ok 42 rfl) ?_
    refine r_nmI (fun y2 => ?_)
    refine q_istore (pc := 68) (ls' := [(6, .int y2), (5, .int y1), (0, .ref v0), (1, .int v1), (2, .int v2), (3, .long v3)]) (dq D_m_idle_0_ok 43 rfl) rfl rfl ?_
    exact T.lsub [2, 3, 5, 1, 0] rfl (tl_m_idle_70 FU (v0, v1, v3, y1, y2) h)
  · refine q_aload_n (pc := 45) (dq D_m_idle_0_ok 27 rfl) rfl 0 rfl ?_
    refine q_iload_n (pc := 46) (dq D_m_idle_0_ok 28 rfl) rfl 1 rfl ?_
    refine q_iload_n (pc := 47) (dq D_m_idle_0_ok 29 rfl) rfl 2 rfl ?_
    refine r_invI (Mc := M_m_goesOnce) (pc := 48) (ci := 11) (rest := []) 1 2 [.int v1, .int v2] (dq D_m_idle_0_ok 30 rfl) rfl rfl lc_m_goesOnce lv_m_goesOnce_ ml_m_374 rfl rfl rfl rfl (t_m_goesOnce v0 v1 v2 h) (fun r4 h3 => ?_)
    refine q_istore_n (pc := 51) (ls' := [(2, .int r4), (0, .ref v0), (1, .int v1), (3, .long v3), (5, .int v5)]) (dq D_m_idle_0_ok 31 rfl) rfl rfl rfl ?_
    refine q_lload_n (pc := 52) (dq D_m_idle_0_ok 32 rfl) rfl 3 rfl ?_
    refine q_lconst (pc := 53) (v := 1) (dq D_m_idle_0_ok 33 rfl) (by decide) ?_
    refine q_iload_n (pc := 54) (dq D_m_idle_0_ok 34 rfl) rfl 0 rfl ?_
    refine q_lshl (pc := 55) (dq D_m_idle_0_ok 35 rfl) ?_
    refine q_lor (pc := 56) (dq D_m_idle_0_ok 36 rfl) ?_
    refine r_nmL (fun y5 => ?_)
    refine q_lstore_n (pc := 57) (ls' := [(3, .long y5), (2, .int r4), (0, .ref v0), (1, .int v1), (5, .int v5)]) (dq D_m_idle_0_ok 37 rfl) rfl rfl rfl ?_
    refine q_iinc (pc := 58) (v := (-1)) (ls' := [(5, .int (v5 + (-1))), (3, .long y5), (2, .int r4), (0, .ref v0), (1, .int v1)]) (dq D_m_idle_0_ok 38 rfl) 4 rfl (by decide) rfl rfl ?_
    refine q_goto (pc := 61) 40 (dq D_m_idle_0_ok 39 rfl) rfl ?_
    exact T.lsub [3, 4, 2, 1, 0] rfl (hk40 (v0, v1, r4, y5, v5 + (-1)) h3)
noncomputable def l_m_idle_40 : Nat → (Nat × Int32 × Int32 × Int64 × Int32) → Hp → Option (Int32 × Hp) := lp (fun k40 s h => b_m_idle_40 k40 s.1 s.2.1 s.2.2.1 s.2.2.2.1 s.2.2.2.2 h)
set_option maxHeartbeats 4000000 in
set_option maxRecDepth 20000 in
theorem tl_m_idle_40 {G : GG} (n : Nat) (s : Nat × Int32 × Int32 × Int64 × Int32) (h : Hp) : T G M_m_idle 2 cI 40 [(0, .ref s.1), (1, .int s.2.1), (2, .int s.2.2.1), (3, .long s.2.2.2.1), (5, .int s.2.2.2.2)] [] h (l_m_idle_40 n s h) :=
  T.loop (lsOf := fun s => [(0, .ref s.1), (1, .int s.2.1), (2, .int s.2.2.1), (3, .long s.2.2.2.1), (5, .int s.2.2.2.2)]) (fun k40 hk40 s h => tb_m_idle_40 hk40 s.1 s.2.1 s.2.2.1 s.2.2.2.1 s.2.2.2.2 h) n s h
noncomputable def f_m_idle (v0 : Nat) (v1 : Int32) (h : Hp) : Option (Int32 × Hp) := gd (hS h v0 = some (.inl 11)) (lt (uI h v0 0 0) fun h1 => gd (hS h1 v0 = some (.inl 11)) (bd (f_m_isWheel v0 v1 h1) fun r3 h2 => if r3 = 0 then (gd (hS h2 v0 = some (.inl 11)) (bd (f_m_refused v0 (1 : Int32) h2) fun r10 h9 => some (r10, h9))) else (gd (hS h2 v0 = some (.inl 11)) (bR (hR h2 v0 15) fun x4 => gd (ai h2 x4 0 v1) (lt (hI h2 x4 v1.toNatClampNeg) fun x5 => lt ((1 : Int64) <<< (x5.toInt64 &&& 63) : Int64) fun y6 => gd (hS h2 v0 = some (.inl 11)) (bd (f_m_goings v0 v1 (5000 : Int32) h2) fun r8 h7 => l_m_idle_40 FU (v0, v1, x5, y6, r8) h7))))))
set_option maxHeartbeats 4000000 in
set_option maxRecDepth 20000 in
theorem t_m_idle {G : GG} (v0 : Nat) (v1 : Int32) (h : Hp) : Mt G M_m_idle 2 [.ref v0, .int v1] cI h (f_m_idle v0 v1 h) := by
  refine Mt.ofF (by decide +kernel) rfl (Rt.i rfl rfl) ?_
  show T G M_m_idle 2 cI 0 [(0, .ref v0), (1, .int v1)] [] h _
  unfold f_m_idle
  refine q_aload_n (pc := 0) (dq D_m_idle_0_ok 0 rfl) rfl 0 rfl ?_
  refine q_ic0 (pc := 1) (dq D_m_idle_0_ok 1 rfl) ?_
  refine r_putI (pc := 2) (dq D_m_idle_0_ok 2 rfl) fp_m_54 rfl rfl (fun h1 => ?_)
  refine q_aload_n (pc := 5) (dq D_m_idle_0_ok 3 rfl) rfl 0 rfl ?_
  refine q_iload_n (pc := 6) (dq D_m_idle_0_ok 4 rfl) rfl 1 rfl ?_
  refine r_invI (Mc := M_m_isWheel) (pc := 7) (ci := 11) (rest := []) 0 1 [.int v1] (dq D_m_idle_0_ok 5 rfl) rfl rfl lc_m_isWheel lv_m_isWheel_ ml_m_357 rfl rfl rfl rfl (t_m_isWheel v0 v1 h1) (fun r3 h2 => ?_)
  refine p_if_ne (pc := 10) 19 (dq D_m_idle_0_ok 6 rfl) rfl ?_ ?_
  · refine q_aload_n (pc := 19) (dq D_m_idle_0_ok 11 rfl) rfl 0 rfl ?_
    refine q_getR (pc := 20) (dq D_m_idle_0_ok 12 rfl) fa_m_17 rfl (fun x4 => ?_)
    refine q_iload_n (pc := 23) (dq D_m_idle_0_ok 13 rfl) rfl 1 rfl ?_
    refine r_iald (pc := 24) (dq D_m_idle_0_ok 14 rfl) (fun x5 => ?_)
    refine q_istore_n (pc := 25) (ls' := [(2, .int x5), (0, .ref v0), (1, .int v1)]) (dq D_m_idle_0_ok 15 rfl) rfl rfl rfl ?_
    refine q_lconst (pc := 26) (v := 1) (dq D_m_idle_0_ok 16 rfl) (by decide) ?_
    refine q_iload_n (pc := 27) (dq D_m_idle_0_ok 17 rfl) rfl 0 rfl ?_
    refine q_lshl (pc := 28) (dq D_m_idle_0_ok 18 rfl) ?_
    refine r_nmL (fun y6 => ?_)
    refine q_lstore_n (pc := 29) (ls' := [(3, .long y6), (2, .int x5), (0, .ref v0), (1, .int v1)]) (dq D_m_idle_0_ok 19 rfl) rfl rfl rfl ?_
    refine q_aload_n (pc := 30) (dq D_m_idle_0_ok 20 rfl) rfl 2 rfl ?_
    refine q_iload_n (pc := 31) (dq D_m_idle_0_ok 21 rfl) rfl 3 rfl ?_
    refine q_sipush (pc := 32) (v := 5000) (dq D_m_idle_0_ok 22 rfl) (by decide) ?_
    refine r_invI (Mc := M_m_goings) (pc := 35) (ci := 11) (rest := []) 0 2 [.int v1, .int 5000] (dq D_m_idle_0_ok 23 rfl) rfl rfl lc_m_goings lv_m_goings_ ml_m_396 rfl rfl rfl rfl (t_m_goings v0 v1 (5000 : Int32) h2) (fun r8 h7 => ?_)
    refine q_istore (pc := 38) (ls' := [(5, .int r8), (3, .long y6), (2, .int x5), (0, .ref v0), (1, .int v1)]) (dq D_m_idle_0_ok 24 rfl) rfl rfl ?_
    exact T.lsub [3, 4, 2, 1, 0] rfl (tl_m_idle_40 FU (v0, v1, x5, y6, r8) h7)
  · refine q_aload_n (pc := 13) (dq D_m_idle_0_ok 7 rfl) rfl 0 rfl ?_
    refine q_ic1 (pc := 14) (dq D_m_idle_0_ok 8 rfl) ?_
    refine r_invI (Mc := M_m_refused) (pc := 15) (ci := 11) (rest := []) 0 1 [.int 1] (dq D_m_idle_0_ok 9 rfl) rfl rfl lc_m_refused lv_m_refused_ ml_m_60 rfl rfl rfl rfl (t_m_refused v0 (1 : Int32) h2) (fun r10 h9 => ?_)
    exact r_reti (pc := 18) (dq D_m_idle_0_ok 10 rfl) rfl
noncomputable def b_m_nextOf_36 (k6 : (Nat × Int32 × Int32 × Int32) → Hp → Option (Int32 × Hp)) (v0 : Nat) (v1 : Int32) (v2 : Int32) (v3 : Int32) (h : Hp) : Option (Int32 × Hp) := k6 (v0, v1, v2, v3 + 1) h
set_option maxHeartbeats 4000000 in
set_option maxRecDepth 20000 in
theorem tb_m_nextOf_36 {G : GG} {k6 : (Nat × Int32 × Int32 × Int32) → Hp → Option (Int32 × Hp)} (hk6 : ∀ s h, T G M_m_nextOf 3 cI 6 [(0, .ref s.1), (1, .int s.2.1), (2, .int s.2.2.1), (3, .int s.2.2.2)] [] h (k6 s h)) (v0 : Nat) (v1 : Int32) (v2 : Int32) (v3 : Int32) (h : Hp) : T G M_m_nextOf 3 cI 36 [(0, .ref v0), (1, .int v1), (2, .int v2), (3, .int v3)] [] h (b_m_nextOf_36 k6 v0 v1 v2 v3 h) := by
  unfold b_m_nextOf_36
  refine q_iinc (pc := 36) (v := (1)) (ls' := [(3, .int (v3 + 1)), (0, .ref v0), (1, .int v1), (2, .int v2)]) (dq D_m_nextOf_0_ok 20 rfl) 3 rfl (by decide) rfl rfl ?_
  refine q_goto (pc := 39) 6 (dq D_m_nextOf_0_ok 21 rfl) rfl ?_
  exact T.lsub [1, 2, 3, 0] rfl (hk6 (v0, v1, v2, v3 + 1) h)
noncomputable def b_m_nextOf_6 (k6 : (Nat × Int32 × Int32 × Int32) → Hp → Option (Int32 × Hp)) (v0 : Nat) (v1 : Int32) (v2 : Int32) (v3 : Int32) (h : Hp) : Option (Int32 × Hp) := if 5000 < v3 then (some ((-2), h)) else (gd (hS h v0 = some (.inl 11)) (bd (f_m_aTurn v0 h) fun r2 h1 => gd (hS h1 v0 = some (.inl 11)) (bd (f_m_isOn v0 v1 h1) fun r4 h3 => if r4 = 0 then (b_m_nextOf_36 k6 v0 v1 v2 v3 h3) else (gd (hS h3 v0 = some (.inl 11)) (bd (f_m_isOn v0 v2 h3) fun r6 h5 => if r6 = 0 then (b_m_nextOf_36 k6 v0 v1 v2 v3 h5) else (some (v3, h5)))))))
set_option maxHeartbeats 4000000 in
set_option maxRecDepth 20000 in
theorem tb_m_nextOf_6 {G : GG} {k6 : (Nat × Int32 × Int32 × Int32) → Hp → Option (Int32 × Hp)} (hk6 : ∀ s h, T G M_m_nextOf 3 cI 6 [(0, .ref s.1), (1, .int s.2.1), (2, .int s.2.2.1), (3, .int s.2.2.2)] [] h (k6 s h)) (v0 : Nat) (v1 : Int32) (v2 : Int32) (v3 : Int32) (h : Hp) : T G M_m_nextOf 3 cI 6 [(0, .ref v0), (1, .int v1), (2, .int v2), (3, .int v3)] [] h (b_m_nextOf_6 k6 v0 v1 v2 v3 h) := by
  unfold b_m_nextOf_6
  refine q_iload_n (pc := 6) (dq D_m_nextOf_0_ok 4 rfl) rfl 3 rfl ?_
  refine q_sipush (pc := 7) (v := 5000) (dq D_m_nextOf_0_ok 5 rfl) (by decide) ?_
  refine q_ic_gt (pc := 10) 42 (dq D_m_nextOf_0_ok 6 rfl) rfl ?_ ?_
  · refine q_bipush (pc := 42) (v := (-2)) (dq D_m_nextOf_0_ok 22 rfl) (by decide) ?_
    exact r_reti (pc := 44) (dq D_m_nextOf_0_ok 23 rfl) rfl
  · refine q_aload_n (pc := 13) (dq D_m_nextOf_0_ok 7 rfl) rfl 0 rfl ?_
    refine r_invI (Mc := M_m_aTurn) (pc := 14) (ci := 11) (rest := []) 2 0 [] (dq D_m_nextOf_0_ok 8 rfl) rfl rfl lc_m_aTurn lv_m_aTurn_ ml_m_403 rfl rfl rfl rfl (t_m_aTurn v0 h) (fun r2 h1 => ?_)
    refine q_pop (pc := 17) (dq D_m_nextOf_0_ok 9 rfl) rfl ?_
    refine q_aload_n (pc := 18) (dq D_m_nextOf_0_ok 10 rfl) rfl 0 rfl ?_
    refine q_iload_n (pc := 19) (dq D_m_nextOf_0_ok 11 rfl) rfl 1 rfl ?_
    refine r_invI (Mc := M_m_isOn) (pc := 20) (ci := 11) (rest := []) 1 1 [.int v1] (dq D_m_nextOf_0_ok 12 rfl) rfl rfl lc_m_isOn lv_m_isOn_ ml_m_385 rfl rfl rfl rfl (t_m_isOn v0 v1 h1) (fun r4 h3 => ?_)
    refine p_if_eq (pc := 23) 36 (dq D_m_nextOf_0_ok 13 rfl) rfl ?_ ?_
    · exact T.lsub [0, 1, 2, 3] rfl (tb_m_nextOf_36 hk6 v0 v1 v2 v3 h3)
    · refine q_aload_n (pc := 26) (dq D_m_nextOf_0_ok 14 rfl) rfl 0 rfl ?_
      refine q_iload_n (pc := 27) (dq D_m_nextOf_0_ok 15 rfl) rfl 2 rfl ?_
      refine r_invI (Mc := M_m_isOn) (pc := 28) (ci := 11) (rest := []) 1 1 [.int v2] (dq D_m_nextOf_0_ok 16 rfl) rfl rfl lc_m_isOn lv_m_isOn_ ml_m_385 rfl rfl rfl rfl (t_m_isOn v0 v2 h3) (fun r6 h5 => ?_)
      refine p_if_eq (pc := 31) 36 (dq D_m_nextOf_0_ok 17 rfl) rfl ?_ ?_
      · exact T.lsub [0, 1, 2, 3] rfl (tb_m_nextOf_36 hk6 v0 v1 v2 v3 h5)
      · refine q_iload_n (pc := 34) (dq D_m_nextOf_0_ok 18 rfl) rfl 3 rfl ?_
        exact r_reti (pc := 35) (dq D_m_nextOf_0_ok 19 rfl) rfl
noncomputable def l_m_nextOf_6 : Nat → (Nat × Int32 × Int32 × Int32) → Hp → Option (Int32 × Hp) := lp (fun k6 s h => b_m_nextOf_6 k6 s.1 s.2.1 s.2.2.1 s.2.2.2 h)
set_option maxHeartbeats 4000000 in
set_option maxRecDepth 20000 in
theorem tl_m_nextOf_6 {G : GG} (n : Nat) (s : Nat × Int32 × Int32 × Int32) (h : Hp) : T G M_m_nextOf 3 cI 6 [(0, .ref s.1), (1, .int s.2.1), (2, .int s.2.2.1), (3, .int s.2.2.2)] [] h (l_m_nextOf_6 n s h) :=
  T.loop (lsOf := fun s => [(0, .ref s.1), (1, .int s.2.1), (2, .int s.2.2.1), (3, .int s.2.2.2)]) (fun k6 hk6 s h => tb_m_nextOf_6 hk6 s.1 s.2.1 s.2.2.1 s.2.2.2 h) n s h
noncomputable def f_m_nextOf (v0 : Nat) (v1 : Int32) (v2 : Int32) (h : Hp) : Option (Int32 × Hp) := gd (hS h v0 = some (.inl 11)) (bd (f_m_works v0 h) fun _ h1 => lt (1 : Int32) fun y3 => l_m_nextOf_6 FU (v0, v1, v2, y3) h1)
set_option maxHeartbeats 4000000 in
set_option maxRecDepth 20000 in
theorem t_m_nextOf {G : GG} (v0 : Nat) (v1 : Int32) (v2 : Int32) (h : Hp) : Mt G M_m_nextOf 3 [.ref v0, .int v1, .int v2] cI h (f_m_nextOf v0 v1 v2 h) := by
  refine Mt.ofF (by decide +kernel) rfl (Rt.i rfl rfl) ?_
  show T G M_m_nextOf 3 cI 0 [(0, .ref v0), (1, .int v1), (2, .int v2)] [] h _
  unfold f_m_nextOf
  refine q_aload_n (pc := 0) (dq D_m_nextOf_0_ok 0 rfl) rfl 0 rfl ?_
  refine r_invU (Mc := M_m_works) (pc := 1) (ci := 11) (rest := []) 0 0 [] (dq D_m_nextOf_0_ok 1 rfl) rfl rfl lc_m_works lv_m_works_ ml_m_383 rfl rfl rfl rfl (t_m_works v0 h) (fun _ h1 => ?_)
  refine q_ic1 (pc := 4) (dq D_m_nextOf_0_ok 2 rfl) ?_
  refine r_nmI (fun y3 => ?_)
  refine q_istore_n (pc := 5) (ls' := [(3, .int y3), (0, .ref v0), (1, .int v1), (2, .int v2)]) (dq D_m_nextOf_0_ok 3 rfl) rfl rfl rfl ?_
  exact T.lsub [1, 2, 3, 0] rfl (tl_m_nextOf_6 FU (v0, v1, v2, y3) h1)
noncomputable def f_m_next (v0 : Nat) (v1 : Int32) (h : Hp) : Option (Int32 × Hp) := gd (hS h v0 = some (.inl 11)) (lt (uI h v0 0 0) fun h1 => gd (hS h1 v0 = some (.inl 11)) (bd (f_m_isFeast v0 v1 h1) fun r3 h2 => if r3 = 0 then (gd (hS h2 v0 = some (.inl 11)) (bd (f_m_refused v0 (1 : Int32) h2) fun r5 h4 => some (r5, h4))) else (gd (hS h2 v0 = some (.inl 11)) (bd (f_m_nextOf v0 v1 v1 h2) fun r7 h6 => gd (hS h6 v0 = some (.inl 11)) (bd (f_m_good v0 r7 h6) fun r9 h8 => some (r9, h8))))))
set_option maxHeartbeats 4000000 in
set_option maxRecDepth 20000 in
theorem t_m_next {G : GG} (v0 : Nat) (v1 : Int32) (h : Hp) : Mt G M_m_next 4 [.ref v0, .int v1] cI h (f_m_next v0 v1 h) := by
  refine Mt.ofF (by decide +kernel) rfl (Rt.i rfl rfl) ?_
  show T G M_m_next 4 cI 0 [(0, .ref v0), (1, .int v1)] [] h _
  unfold f_m_next
  refine q_aload_n (pc := 0) (dq D_m_next_0_ok 0 rfl) rfl 0 rfl ?_
  refine q_ic0 (pc := 1) (dq D_m_next_0_ok 1 rfl) ?_
  refine r_putI (pc := 2) (dq D_m_next_0_ok 2 rfl) fp_m_54 rfl rfl (fun h1 => ?_)
  refine q_aload_n (pc := 5) (dq D_m_next_0_ok 3 rfl) rfl 0 rfl ?_
  refine q_iload_n (pc := 6) (dq D_m_next_0_ok 4 rfl) rfl 1 rfl ?_
  refine r_invI (Mc := M_m_isFeast) (pc := 7) (ci := 11) (rest := []) 0 1 [.int v1] (dq D_m_next_0_ok 5 rfl) rfl rfl lc_m_isFeast lv_m_isFeast_ ml_m_360 rfl rfl rfl rfl (t_m_isFeast v0 v1 h1) (fun r3 h2 => ?_)
  refine p_if_eq (pc := 10) 26 (dq D_m_next_0_ok 6 rfl) rfl ?_ ?_
  · refine q_aload_n (pc := 26) (dq D_m_next_0_ok 14 rfl) rfl 0 rfl ?_
    refine q_ic1 (pc := 27) (dq D_m_next_0_ok 15 rfl) ?_
    refine r_invI (Mc := M_m_refused) (pc := 28) (ci := 11) (rest := []) 0 1 [.int 1] (dq D_m_next_0_ok 16 rfl) rfl rfl lc_m_refused lv_m_refused_ ml_m_60 rfl rfl rfl rfl (t_m_refused v0 (1 : Int32) h2) (fun r5 h4 => ?_)
    exact r_reti (pc := 31) (dq D_m_next_0_ok 17 rfl) rfl
  · refine q_aload_n (pc := 13) (dq D_m_next_0_ok 7 rfl) rfl 0 rfl ?_
    refine q_aload_n (pc := 14) (dq D_m_next_0_ok 8 rfl) rfl 0 rfl ?_
    refine q_iload_n (pc := 15) (dq D_m_next_0_ok 9 rfl) rfl 1 rfl ?_
    refine q_iload_n (pc := 16) (dq D_m_next_0_ok 10 rfl) rfl 1 rfl ?_
    refine r_invI (Mc := M_m_nextOf) (pc := 17) (ci := 11) (rest := [.ref v0]) 3 2 [.int v1, .int v1] (dq D_m_next_0_ok 11 rfl) rfl rfl lc_m_nextOf lv_m_nextOf_ ml_m_406 rfl rfl rfl rfl (t_m_nextOf v0 v1 v1 h2) (fun r7 h6 => ?_)
    refine r_invI (Mc := M_m_good) (pc := 20) (ci := 11) (rest := []) 0 1 [.int r7] (dq D_m_next_0_ok 12 rfl) rfl rfl lc_m_good lv_m_good_ ml_m_64 rfl rfl rfl rfl (t_m_good v0 r7 h6) (fun r9 h8 => ?_)
    refine q_goto (pc := 23) 31 (dq D_m_next_0_ok 13 rfl) rfl ?_
    exact r_reti (pc := 31) (dq D_m_next_0_ok 17 rfl) rfl
noncomputable def b_m_often_66 (k40 : (Nat × Int32 × Int32 × Int32 × Int32) → Hp → Option (Int32 × Hp)) (v0 : Nat) (v1 : Int32) (v2 : Int32) (v5 : Int32) (s0 : Int32) (s1 : Int32) (h : Hp) : Option (Int32 × Hp) := lt (s1 + s0 : Int32) fun y1 => k40 (v0, v1, v2, y1, v5 + 1) h
set_option maxHeartbeats 4000000 in
set_option maxRecDepth 20000 in
theorem tb_m_often_66 {G : GG} {k40 : (Nat × Int32 × Int32 × Int32 × Int32) → Hp → Option (Int32 × Hp)} (hk40 : ∀ s h, T G M_m_often 3 cI 40 [(0, .ref s.1), (1, .int s.2.1), (2, .int s.2.2.1), (4, .int s.2.2.2.1), (5, .int s.2.2.2.2)] [] h (k40 s h)) (v0 : Nat) (v1 : Int32) (v2 : Int32) (v5 : Int32) (s0 : Int32) (s1 : Int32) (h : Hp) : T G M_m_often 3 cI 66 [(0, .ref v0), (1, .int v1), (2, .int v2), (5, .int v5)] [.int s0, .int s1] h (b_m_often_66 k40 v0 v1 v2 v5 s0 s1 h) := by
  unfold b_m_often_66
  refine q_iadd (pc := 66) (dq D_m_often_0_ok 38 rfl) ?_
  refine r_nmI (fun y1 => ?_)
  refine q_istore (pc := 67) (ls' := [(4, .int y1), (0, .ref v0), (1, .int v1), (2, .int v2), (5, .int v5)]) (dq D_m_often_0_ok 39 rfl) rfl rfl ?_
  refine q_iinc (pc := 69) (v := (1)) (ls' := [(5, .int (v5 + 1)), (4, .int y1), (0, .ref v0), (1, .int v1), (2, .int v2)]) (dq D_m_often_0_ok 40 rfl) 4 rfl (by decide) rfl rfl ?_
  refine q_goto (pc := 72) 40 (dq D_m_often_0_ok 41 rfl) rfl ?_
  exact T.lsub [2, 3, 4, 1, 0] rfl (hk40 (v0, v1, v2, y1, v5 + 1) h)
noncomputable def b_m_often_40 (k40 : (Nat × Int32 × Int32 × Int32 × Int32) → Hp → Option (Int32 × Hp)) (v0 : Nat) (v1 : Int32) (v2 : Int32) (v4 : Int32) (v5 : Int32) (h : Hp) : Option (Int32 × Hp) := if v2 ≤ v5 then (gd (hS h v0 = some (.inl 11)) (bd (f_m_good v0 v4 h) fun r2 h1 => some (r2, h1))) else (gd (hS h v0 = some (.inl 11)) (bd (f_m_aTurn v0 h) fun r4 h3 => gd (hS h3 v0 = some (.inl 11)) (bd (f_m_isOn v0 v1 h3) fun r6 h5 => if r6 = 0 then (b_m_often_66 k40 v0 v1 v2 v5 0 v4 h5) else (b_m_often_66 k40 v0 v1 v2 v5 1 v4 h5))))
set_option maxHeartbeats 4000000 in
set_option maxRecDepth 20000 in
theorem tb_m_often_40 {G : GG} {k40 : (Nat × Int32 × Int32 × Int32 × Int32) → Hp → Option (Int32 × Hp)} (hk40 : ∀ s h, T G M_m_often 3 cI 40 [(0, .ref s.1), (1, .int s.2.1), (2, .int s.2.2.1), (4, .int s.2.2.2.1), (5, .int s.2.2.2.2)] [] h (k40 s h)) (v0 : Nat) (v1 : Int32) (v2 : Int32) (v4 : Int32) (v5 : Int32) (h : Hp) : T G M_m_often 3 cI 40 [(0, .ref v0), (1, .int v1), (2, .int v2), (4, .int v4), (5, .int v5)] [] h (b_m_often_40 k40 v0 v1 v2 v4 v5 h) := by
  unfold b_m_often_40
  refine q_iload (pc := 40) (dq D_m_often_0_ok 24 rfl) 4 rfl ?_
  refine q_iload_n (pc := 42) (dq D_m_often_0_ok 25 rfl) rfl 2 rfl ?_
  refine q_ic_ge (pc := 43) 75 (dq D_m_often_0_ok 26 rfl) rfl ?_ ?_
  · refine q_aload_n (pc := 75) (dq D_m_often_0_ok 42 rfl) rfl 0 rfl ?_
    refine q_iload (pc := 76) (dq D_m_often_0_ok 43 rfl) 3 rfl ?_
    refine r_invI (Mc := M_m_good) (pc := 78) (ci := 11) (rest := []) 0 1 [.int v4] (dq D_m_often_0_ok 44 rfl) rfl rfl lc_m_good lv_m_good_ ml_m_64 rfl rfl rfl rfl (t_m_good v0 v4 h) (fun r2 h1 => ?_)
    exact r_reti (pc := 81) (dq D_m_often_0_ok 45 rfl) rfl
  · refine q_aload_n (pc := 46) (dq D_m_often_0_ok 27 rfl) rfl 0 rfl ?_
    refine r_invI (Mc := M_m_aTurn) (pc := 47) (ci := 11) (rest := []) 2 0 [] (dq D_m_often_0_ok 28 rfl) rfl rfl lc_m_aTurn lv_m_aTurn_ ml_m_403 rfl rfl rfl rfl (t_m_aTurn v0 h) (fun r4 h3 => ?_)
    refine q_pop (pc := 50) (dq D_m_often_0_ok 29 rfl) rfl ?_
    refine q_iload (pc := 51) (dq D_m_often_0_ok 30 rfl) 3 rfl ?_
    refine q_aload_n (pc := 53) (dq D_m_often_0_ok 31 rfl) rfl 0 rfl ?_
    refine q_iload_n (pc := 54) (dq D_m_often_0_ok 32 rfl) rfl 1 rfl ?_
    refine r_invI (Mc := M_m_isOn) (pc := 55) (ci := 11) (rest := [.int v4]) 1 1 [.int v1] (dq D_m_often_0_ok 33 rfl) rfl rfl lc_m_isOn lv_m_isOn_ ml_m_385 rfl rfl rfl rfl (t_m_isOn v0 v1 h3) (fun r6 h5 => ?_)
    refine p_if_eq (pc := 58) 65 (dq D_m_often_0_ok 34 rfl) rfl ?_ ?_
    · refine q_ic0 (pc := 65) (dq D_m_often_0_ok 37 rfl) ?_
      exact T.lsub [0, 1, 2, 4] rfl (tb_m_often_66 hk40 v0 v1 v2 v5 0 v4 h5)
    · refine q_ic1 (pc := 61) (dq D_m_often_0_ok 35 rfl) ?_
      refine q_goto (pc := 62) 66 (dq D_m_often_0_ok 36 rfl) rfl ?_
      exact T.lsub [0, 1, 2, 4] rfl (tb_m_often_66 hk40 v0 v1 v2 v5 1 v4 h5)
noncomputable def l_m_often_40 : Nat → (Nat × Int32 × Int32 × Int32 × Int32) → Hp → Option (Int32 × Hp) := lp (fun k40 s h => b_m_often_40 k40 s.1 s.2.1 s.2.2.1 s.2.2.2.1 s.2.2.2.2 h)
set_option maxHeartbeats 4000000 in
set_option maxRecDepth 20000 in
theorem tl_m_often_40 {G : GG} (n : Nat) (s : Nat × Int32 × Int32 × Int32 × Int32) (h : Hp) : T G M_m_often 3 cI 40 [(0, .ref s.1), (1, .int s.2.1), (2, .int s.2.2.1), (4, .int s.2.2.2.1), (5, .int s.2.2.2.2)] [] h (l_m_often_40 n s h) :=
  T.loop (lsOf := fun s => [(0, .ref s.1), (1, .int s.2.1), (2, .int s.2.2.1), (4, .int s.2.2.2.1), (5, .int s.2.2.2.2)]) (fun k40 hk40 s h => tb_m_often_40 hk40 s.1 s.2.1 s.2.2.1 s.2.2.2.1 s.2.2.2.2 h) n s h
noncomputable def f_m_often (v0 : Nat) (v1 : Int32) (v2 : Int32) (h : Hp) : Option (Int32 × Hp) := gd (hS h v0 = some (.inl 11)) (lt (uI h v0 0 0) fun h1 => gd (hS h1 v0 = some (.inl 11)) (bd (f_m_isFeast v0 v1 h1) fun r3 h2 => gd (hS h2 v0 = some (.inl 11)) (bd (f_m_refusesDays v0 r3 v2 (0 : Int32) (5000 : Int32) h2) fun r5 h4 => if r5 ≤ 0 then (gd (hS h4 v0 = some (.inl 11)) (bd (f_m_works v0 h4) fun _ h6 => lt (0 : Int32) fun y8 => lt (0 : Int32) fun y9 => l_m_often_40 FU (v0, v1, v2, y8, y9) h6)) else (gd (hS h4 v0 = some (.inl 11)) (bd (f_m_refused v0 r5 h4) fun r11 h10 => some (r11, h10))))))
set_option maxHeartbeats 4000000 in
set_option maxRecDepth 20000 in
theorem t_m_often {G : GG} (v0 : Nat) (v1 : Int32) (v2 : Int32) (h : Hp) : Mt G M_m_often 3 [.ref v0, .int v1, .int v2] cI h (f_m_often v0 v1 v2 h) := by
  refine Mt.ofF (by decide +kernel) rfl (Rt.i rfl rfl) ?_
  show T G M_m_often 3 cI 0 [(0, .ref v0), (1, .int v1), (2, .int v2)] [] h _
  unfold f_m_often
  refine q_aload_n (pc := 0) (dq D_m_often_0_ok 0 rfl) rfl 0 rfl ?_
  refine q_ic0 (pc := 1) (dq D_m_often_0_ok 1 rfl) ?_
  refine r_putI (pc := 2) (dq D_m_often_0_ok 2 rfl) fp_m_54 rfl rfl (fun h1 => ?_)
  refine q_aload_n (pc := 5) (dq D_m_often_0_ok 3 rfl) rfl 0 rfl ?_
  refine q_aload_n (pc := 6) (dq D_m_often_0_ok 4 rfl) rfl 0 rfl ?_
  refine q_iload_n (pc := 7) (dq D_m_often_0_ok 5 rfl) rfl 1 rfl ?_
  refine r_invI (Mc := M_m_isFeast) (pc := 8) (ci := 11) (rest := [.ref v0]) 0 1 [.int v1] (dq D_m_often_0_ok 6 rfl) rfl rfl lc_m_isFeast lv_m_isFeast_ ml_m_360 rfl rfl rfl rfl (t_m_isFeast v0 v1 h1) (fun r3 h2 => ?_)
  refine q_iload_n (pc := 11) (dq D_m_often_0_ok 7 rfl) rfl 2 rfl ?_
  refine q_ic0 (pc := 12) (dq D_m_often_0_ok 8 rfl) ?_
  refine q_sipush (pc := 13) (v := 5000) (dq D_m_often_0_ok 9 rfl) (by decide) ?_
  refine r_invI (Mc := M_m_refusesDays) (pc := 16) (ci := 11) (rest := []) 1 4 [.int r3, .int v2, .int 0, .int 5000] (dq D_m_often_0_ok 10 rfl) rfl rfl lc_m_refusesDays lv_m_refusesDays_ ml_m_392 rfl rfl rfl rfl (t_m_refusesDays v0 r3 v2 (0 : Int32) (5000 : Int32) h2) (fun r5 h4 => ?_)
  refine q_istore_n (pc := 19) (ls' := [(3, .int r5), (0, .ref v0), (1, .int v1), (2, .int v2)]) (dq D_m_often_0_ok 11 rfl) rfl rfl rfl ?_
  refine q_iload_n (pc := 20) (dq D_m_often_0_ok 12 rfl) rfl 0 rfl ?_
  refine p_if_le (pc := 21) 30 (dq D_m_often_0_ok 13 rfl) rfl ?_ ?_
  · refine q_aload_n (pc := 30) (dq D_m_often_0_ok 18 rfl) rfl 1 rfl ?_
    refine r_invU (Mc := M_m_works) (pc := 31) (ci := 11) (rest := []) 0 0 [] (dq D_m_often_0_ok 19 rfl) rfl rfl lc_m_works lv_m_works_ ml_m_383 rfl rfl rfl rfl (t_m_works v0 h4) (fun _ h6 => ?_)
    refine q_ic0 (pc := 34) (dq D_m_often_0_ok 20 rfl) ?_
    refine r_nmI (fun y8 => ?_)
    refine q_istore (pc := 35) (ls' := [(4, .int y8), (3, .int r5), (0, .ref v0), (1, .int v1), (2, .int v2)]) (dq D_m_often_0_ok 21 rfl) rfl rfl ?_
    refine q_ic0 (pc := 37) (dq D_m_often_0_ok 22 rfl) ?_
    refine r_nmI (fun y9 => ?_)
    refine q_istore (pc := 38) (ls' := [(5, .int y9), (4, .int y8), (3, .int r5), (0, .ref v0), (1, .int v1), (2, .int v2)]) (dq D_m_often_0_ok 23 rfl) rfl rfl ?_
    exact T.lsub [3, 4, 5, 1, 0] rfl (tl_m_often_40 FU (v0, v1, v2, y8, y9) h6)
  · refine q_aload_n (pc := 24) (dq D_m_often_0_ok 14 rfl) rfl 1 rfl ?_
    refine q_iload_n (pc := 25) (dq D_m_often_0_ok 15 rfl) rfl 0 rfl ?_
    refine r_invI (Mc := M_m_refused) (pc := 26) (ci := 11) (rest := []) 0 1 [.int r5] (dq D_m_often_0_ok 16 rfl) rfl rfl lc_m_refused lv_m_refused_ ml_m_60 rfl rfl rfl rfl (t_m_refused v0 r5 h4) (fun r11 h10 => ?_)
    exact r_reti (pc := 29) (dq D_m_often_0_ok 17 rfl) rfl
noncomputable def b_m_meet_39 (v0 : Nat) (h : Hp) : Option (Int32 × Hp) := gd (hS h v0 = some (.inl 11)) (bd (f_m_refused v0 (1 : Int32) h) fun r2 h1 => some (r2, h1))
set_option maxHeartbeats 4000000 in
set_option maxRecDepth 20000 in
theorem tb_m_meet_39 {G : GG} (v0 : Nat) (h : Hp) : T G M_m_meet 4 cI 39 [(0, .ref v0)] [] h (b_m_meet_39 v0 h) := by
  unfold b_m_meet_39
  refine q_aload_n (pc := 39) (dq D_m_meet_0_ok 21 rfl) rfl 0 rfl ?_
  refine q_ic1 (pc := 40) (dq D_m_meet_0_ok 22 rfl) ?_
  refine r_invI (Mc := M_m_refused) (pc := 41) (ci := 11) (rest := []) 0 1 [.int 1] (dq D_m_meet_0_ok 23 rfl) rfl rfl lc_m_refused lv_m_refused_ ml_m_60 rfl rfl rfl rfl (t_m_refused v0 (1 : Int32) h) (fun r2 h1 => ?_)
  exact r_reti (pc := 44) (dq D_m_meet_0_ok 24 rfl) rfl
noncomputable def f_m_meet (v0 : Nat) (v1 : Int32) (v2 : Int32) (h : Hp) : Option (Int32 × Hp) := gd (hS h v0 = some (.inl 11)) (lt (uI h v0 0 0) fun h1 => gd (hS h1 v0 = some (.inl 11)) (bd (f_m_isFeast v0 v1 h1) fun r3 h2 => if r3 = 0 then (b_m_meet_39 v0 h2) else (gd (hS h2 v0 = some (.inl 11)) (bd (f_m_isFeast v0 v2 h2) fun r5 h4 => if r5 = 0 then (b_m_meet_39 v0 h4) else (if v1 = v2 then (b_m_meet_39 v0 h4) else (gd (hS h4 v0 = some (.inl 11)) (bd (f_m_nextOf v0 v1 v2 h4) fun r7 h6 => gd (hS h6 v0 = some (.inl 11)) (bd (f_m_good v0 r7 h6) fun r9 h8 => some (r9, h8)))))))))
set_option maxHeartbeats 4000000 in
set_option maxRecDepth 20000 in
theorem t_m_meet {G : GG} (v0 : Nat) (v1 : Int32) (v2 : Int32) (h : Hp) : Mt G M_m_meet 4 [.ref v0, .int v1, .int v2] cI h (f_m_meet v0 v1 v2 h) := by
  refine Mt.ofF (by decide +kernel) rfl (Rt.i rfl rfl) ?_
  show T G M_m_meet 4 cI 0 [(0, .ref v0), (1, .int v1), (2, .int v2)] [] h _
  unfold f_m_meet
  refine q_aload_n (pc := 0) (dq D_m_meet_0_ok 0 rfl) rfl 0 rfl ?_
  refine q_ic0 (pc := 1) (dq D_m_meet_0_ok 1 rfl) ?_
  refine r_putI (pc := 2) (dq D_m_meet_0_ok 2 rfl) fp_m_54 rfl rfl (fun h1 => ?_)
  refine q_aload_n (pc := 5) (dq D_m_meet_0_ok 3 rfl) rfl 0 rfl ?_
  refine q_iload_n (pc := 6) (dq D_m_meet_0_ok 4 rfl) rfl 1 rfl ?_
  refine r_invI (Mc := M_m_isFeast) (pc := 7) (ci := 11) (rest := []) 0 1 [.int v1] (dq D_m_meet_0_ok 5 rfl) rfl rfl lc_m_isFeast lv_m_isFeast_ ml_m_360 rfl rfl rfl rfl (t_m_isFeast v0 v1 h1) (fun r3 h2 => ?_)
  refine p_if_eq (pc := 10) 39 (dq D_m_meet_0_ok 6 rfl) rfl ?_ ?_
  · exact T.lsub [0] rfl (tb_m_meet_39 v0 h2)
  · refine q_aload_n (pc := 13) (dq D_m_meet_0_ok 7 rfl) rfl 0 rfl ?_
    refine q_iload_n (pc := 14) (dq D_m_meet_0_ok 8 rfl) rfl 2 rfl ?_
    refine r_invI (Mc := M_m_isFeast) (pc := 15) (ci := 11) (rest := []) 0 1 [.int v2] (dq D_m_meet_0_ok 9 rfl) rfl rfl lc_m_isFeast lv_m_isFeast_ ml_m_360 rfl rfl rfl rfl (t_m_isFeast v0 v2 h2) (fun r5 h4 => ?_)
    refine p_if_eq (pc := 18) 39 (dq D_m_meet_0_ok 10 rfl) rfl ?_ ?_
    · exact T.lsub [0] rfl (tb_m_meet_39 v0 h4)
    · refine q_iload_n (pc := 21) (dq D_m_meet_0_ok 11 rfl) rfl 1 rfl ?_
      refine q_iload_n (pc := 22) (dq D_m_meet_0_ok 12 rfl) rfl 2 rfl ?_
      refine q_ic_eq (pc := 23) 39 (dq D_m_meet_0_ok 13 rfl) rfl ?_ ?_
      · exact T.lsub [0] rfl (tb_m_meet_39 v0 h4)
      · refine q_aload_n (pc := 26) (dq D_m_meet_0_ok 14 rfl) rfl 0 rfl ?_
        refine q_aload_n (pc := 27) (dq D_m_meet_0_ok 15 rfl) rfl 0 rfl ?_
        refine q_iload_n (pc := 28) (dq D_m_meet_0_ok 16 rfl) rfl 1 rfl ?_
        refine q_iload_n (pc := 29) (dq D_m_meet_0_ok 17 rfl) rfl 2 rfl ?_
        refine r_invI (Mc := M_m_nextOf) (pc := 30) (ci := 11) (rest := [.ref v0]) 3 2 [.int v1, .int v2] (dq D_m_meet_0_ok 18 rfl) rfl rfl lc_m_nextOf lv_m_nextOf_ ml_m_406 rfl rfl rfl rfl (t_m_nextOf v0 v1 v2 h4) (fun r7 h6 => ?_)
        refine r_invI (Mc := M_m_good) (pc := 33) (ci := 11) (rest := []) 0 1 [.int r7] (dq D_m_meet_0_ok 19 rfl) rfl rfl lc_m_good lv_m_good_ ml_m_64 rfl rfl rfl rfl (t_m_good v0 r7 h6) (fun r9 h8 => ?_)
        refine q_goto (pc := 36) 44 (dq D_m_meet_0_ok 20 rfl) rfl ?_
        exact r_reti (pc := 44) (dq D_m_meet_0_ok 24 rfl) rfl
