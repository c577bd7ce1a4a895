noncomputable def f_m_byFor (v0 : Nat) (v1 : Int32) (v2 : Int32) (h : Hp) : Option (Int32 × Hp) := gd (hS h v0 = some (.inl 11)) (lt (uI h v0 0 0) fun h1 => gd (hS h1 v0 = some (.inl 11)) (bd (f_m_isOf v0 v1 v2 h1) fun r3 h2 => if r3 = 0 then (gd (hS h2 v0 = some (.inl 11)) (bd (f_m_refused v0 (1 : Int32) h2) fun r10 h9 => some (r10, h9))) else (gd (hS h2 v0 = some (.inl 11)) (bd (f_m_paces v0 v1 v2 h2) fun r5 h4 => gd (hS h4 v0 = some (.inl 11)) (lt (hI h4 v0 23) fun x6 => gd (hS h4 v0 = some (.inl 11)) (bd (f_m_good v0 x6 h4) fun r8 h7 => some (r8, h7)))))))
set_option maxHeartbeats 4000000 in
set_option maxRecDepth 20000 in
theorem t_m_byFor {G : GG} (v0 : Nat) (v1 : Int32) (v2 : Int32) (h : Hp) : Mt G M_m_byFor 5 [.ref v0, .int v1, .int v2] cI h (f_m_byFor v0 v1 v2 h) := by
  refine Mt.ofF (by decide +kernel) rfl (Rt.i rfl rfl) ?_
  show T G M_m_byFor 5 cI 0 [(0, .ref v0), (1, .int v1), (2, .int v2)] [] h _
  unfold f_m_byFor
  refine q_aload_n (pc := 0) (dq D_m_byFor_0_ok 0 rfl) rfl 0 rfl ?_
  refine q_ic0 (pc := 1) (dq D_m_byFor_0_ok 1 rfl) ?_
  refine r_putI (pc := 2) (dq D_m_byFor_0_ok 2 rfl) fp_m_54 rfl rfl (fun h1 => ?_)
  refine q_aload_n (pc := 5) (dq D_m_byFor_0_ok 3 rfl) rfl 0 rfl ?_
  refine q_iload_n (pc := 6) (dq D_m_byFor_0_ok 4 rfl) rfl 1 rfl ?_
  refine q_iload_n (pc := 7) (dq D_m_byFor_0_ok 5 rfl) rfl 2 rfl ?_
  refine r_invI (Mc := M_m_isOf) (pc := 8) (ci := 11) (rest := []) 1 2 [.int v1, .int v2] (dq D_m_byFor_0_ok 6 rfl) rfl rfl lc_m_isOf lv_m_isOf_ ml_m_409 rfl rfl rfl rfl (t_m_isOf v0 v1 v2 h1) (fun r3 h2 => ?_)
  refine p_if_ne (pc := 11) 20 (dq D_m_byFor_0_ok 7 rfl) rfl ?_ ?_
  · refine q_aload_n (pc := 20) (dq D_m_byFor_0_ok 12 rfl) rfl 0 rfl ?_
    refine q_iload_n (pc := 21) (dq D_m_byFor_0_ok 13 rfl) rfl 1 rfl ?_
    refine q_iload_n (pc := 22) (dq D_m_byFor_0_ok 14 rfl) rfl 2 rfl ?_
    refine r_invI (Mc := M_m_paces) (pc := 23) (ci := 11) (rest := []) 4 2 [.int v1, .int v2] (dq D_m_byFor_0_ok 15 rfl) rfl rfl lc_m_paces lv_m_paces_ ml_m_419 rfl rfl rfl rfl (t_m_paces v0 v1 v2 h2) (fun r5 h4 => ?_)
    refine q_pop (pc := 26) (dq D_m_byFor_0_ok 16 rfl) rfl ?_
    refine q_aload_n (pc := 27) (dq D_m_byFor_0_ok 17 rfl) rfl 0 rfl ?_
    refine q_aload_n (pc := 28) (dq D_m_byFor_0_ok 18 rfl) rfl 0 rfl ?_
    refine r_getI (pc := 29) (dq D_m_byFor_0_ok 19 rfl) fa_m_416 rfl (fun x6 => ?_)
    refine r_invI (Mc := M_m_good) (pc := 32) (ci := 11) (rest := []) 0 1 [.int x6] (dq D_m_byFor_0_ok 20 rfl) rfl rfl lc_m_good lv_m_good_ ml_m_64 rfl rfl rfl rfl (t_m_good v0 x6 h4) (fun r8 h7 => ?_)
    exact r_reti (pc := 35) (dq D_m_byFor_0_ok 21 rfl) rfl
  · refine q_aload_n (pc := 14) (dq D_m_byFor_0_ok 8 rfl) rfl 0 rfl ?_
    refine q_ic1 (pc := 15) (dq D_m_byFor_0_ok 9 rfl) ?_
    refine r_invI (Mc := M_m_refused) (pc := 16) (ci := 11) (rest := []) 0 1 [.int 1] (dq D_m_byFor_0_ok 10 rfl) rfl rfl lc_m_refused lv_m_refused_ ml_m_60 rfl rfl rfl rfl (t_m_refused v0 (1 : Int32) h2) (fun r10 h9 => ?_)
    exact r_reti (pc := 19) (dq D_m_byFor_0_ok 11 rfl) rfl
noncomputable def f_m_byIn (v0 : Nat) (v1 : Int32) (v2 : Int32) (h : Hp) : Option (Int32 × Hp) := gd (hS h v0 = some (.inl 11)) (lt (uI h v0 0 0) fun h1 => gd (hS h1 v0 = some (.inl 11)) (bd (f_m_isOf v0 v1 v2 h1) fun r3 h2 => if r3 = 0 then (gd (hS h2 v0 = some (.inl 11)) (bd (f_m_refused v0 (1 : Int32) h2) fun r5 h4 => some (r5, h4))) else (gd (hS h2 v0 = some (.inl 11)) (bd (f_m_paces v0 v1 v2 h2) fun r7 h6 => gd (hS h6 v0 = some (.inl 11)) (bd (f_m_good v0 r7 h6) fun r9 h8 => some (r9, h8))))))
set_option maxHeartbeats 4000000 in
set_option maxRecDepth 20000 in
theorem t_m_byIn {G : GG} (v0 : Nat) (v1 : Int32) (v2 : Int32) (h : Hp) : Mt G M_m_byIn 5 [.ref v0, .int v1, .int v2] cI h (f_m_byIn v0 v1 v2 h) := by
  refine Mt.ofF (by decide +kernel) rfl (Rt.i rfl rfl) ?_
  show T G M_m_byIn 5 cI 0 [(0, .ref v0), (1, .int v1), (2, .int v2)] [] h _
  unfold f_m_byIn
  refine q_aload_n (pc := 0) (dq D_m_byIn_0_ok 0 rfl) rfl 0 rfl ?_
  refine q_ic0 (pc := 1) (dq D_m_byIn_0_ok 1 rfl) ?_
  refine r_putI (pc := 2) (dq D_m_byIn_0_ok 2 rfl) fp_m_54 rfl rfl (fun h1 => ?_)
  refine q_aload_n (pc := 5) (dq D_m_byIn_0_ok 3 rfl) rfl 0 rfl ?_
  refine q_iload_n (pc := 6) (dq D_m_byIn_0_ok 4 rfl) rfl 1 rfl ?_
  refine q_iload_n (pc := 7) (dq D_m_byIn_0_ok 5 rfl) rfl 2 rfl ?_
  refine r_invI (Mc := M_m_isOf) (pc := 8) (ci := 11) (rest := []) 1 2 [.int v1, .int v2] (dq D_m_byIn_0_ok 6 rfl) rfl rfl lc_m_isOf lv_m_isOf_ ml_m_409 rfl rfl rfl rfl (t_m_isOf v0 v1 v2 h1) (fun r3 h2 => ?_)
  refine p_if_eq (pc := 11) 27 (dq D_m_byIn_0_ok 7 rfl) rfl ?_ ?_
  · refine q_aload_n (pc := 27) (dq D_m_byIn_0_ok 15 rfl) rfl 0 rfl ?_
    refine q_ic1 (pc := 28) (dq D_m_byIn_0_ok 16 rfl) ?_
    refine r_invI (Mc := M_m_refused) (pc := 29) (ci := 11) (rest := []) 0 1 [.int 1] (dq D_m_byIn_0_ok 17 rfl) rfl rfl lc_m_refused lv_m_refused_ ml_m_60 rfl rfl rfl rfl (t_m_refused v0 (1 : Int32) h2) (fun r5 h4 => ?_)
    exact r_reti (pc := 32) (dq D_m_byIn_0_ok 18 rfl) rfl
  · refine q_aload_n (pc := 14) (dq D_m_byIn_0_ok 8 rfl) rfl 0 rfl ?_
    refine q_aload_n (pc := 15) (dq D_m_byIn_0_ok 9 rfl) rfl 0 rfl ?_
    refine q_iload_n (pc := 16) (dq D_m_byIn_0_ok 10 rfl) rfl 1 rfl ?_
    refine q_iload_n (pc := 17) (dq D_m_byIn_0_ok 11 rfl) rfl 2 rfl ?_
    refine r_invI (Mc := M_m_paces) (pc := 18) (ci := 11) (rest := [.ref v0]) 4 2 [.int v1, .int v2] (dq D_m_byIn_0_ok 12 rfl) rfl rfl lc_m_paces lv_m_paces_ ml_m_419 rfl rfl rfl rfl (t_m_paces v0 v1 v2 h2) (fun r7 h6 => ?_)
    refine r_invI (Mc := M_m_good) (pc := 21) (ci := 11) (rest := []) 0 1 [.int r7] (dq D_m_byIn_0_ok 13 rfl) rfl rfl lc_m_good lv_m_good_ ml_m_64 rfl rfl rfl rfl (t_m_good v0 r7 h6) (fun r9 h8 => ?_)
    refine q_goto (pc := 24) 32 (dq D_m_byIn_0_ok 14 rfl) rfl ?_
    exact r_reti (pc := 32) (dq D_m_byIn_0_ok 18 rfl) rfl
noncomputable def b_m_settings_125 (k36 : (Nat × Int32 × Int32 × Int32 × Int32) → Hp → Option (Int32 × Hp)) (v0 : Nat) (v1 : Int32) (v2 : Int32) (v4 : Int32) (v5 : Int32) (h : Hp) : Option (Int32 × Hp) := k36 (v0, v1, v2, v4, v5 + 1) h
set_option maxHeartbeats 4000000 in
set_option maxRecDepth 20000 in
theorem tb_m_settings_125 {G : GG} {k36 : (Nat × Int32 × Int32 × Int32 × Int32) → Hp → Option (Int32 × Hp)} (hk36 : ∀ s h, T G M_m_settings 4 cI 36 [(0, .ref s.1), (1, .int s.2.1), (2, .int s.2.2.1), (4, .int s.2.2.2.1), (5, .int s.2.2.2.2)] [] h (k36 s h)) (v0 : Nat) (v1 : Int32) (v2 : Int32) (v4 : Int32) (v5 : Int32) (h : Hp) : T G M_m_settings 4 cI 125 [(0, .ref v0), (1, .int v1), (2, .int v2), (4, .int v4), (5, .int v5)] [] h (b_m_settings_125 k36 v0 v1 v2 v4 v5 h) := by
  unfold b_m_settings_125
  refine q_iinc (pc := 125) (v := (1)) (ls' := [(5, .int (v5 + 1)), (0, .ref v0), (1, .int v1), (2, .int v2), (4, .int v4)]) (dq D_m_settings_1_ok 6 rfl) 4 rfl (by decide) rfl rfl ?_
  refine q_goto (pc := 128) 36 (dq D_m_settings_1_ok 7 rfl) rfl ?_
  exact T.lsub [1, 2, 3, 4, 0] rfl (hk36 (v0, v1, v2, v4, v5 + 1) h)
noncomputable def b_m_settings_109 (k36 : (Nat × Int32 × Int32 × Int32 × Int32) → Hp → Option (Int32 × Hp)) (k74 : (Nat × Int32 × Int32 × Int32 × Int32 × Int32 × Int32) → Hp → Option (Int32 × Hp)) (v0 : Nat) (v1 : Int32) (v2 : Int32) (v4 : Int32) (v5 : Int32) (v7 : Int32) (s0 : Int32) (s1 : Int32) (h : Hp) : Option (Int32 × Hp) := lt (s1 + s0 : Int32) fun y1 => k74 (v0, v1, v2, v4, v5, y1, v7 + 1) h
set_option maxHeartbeats 4000000 in
set_option maxRecDepth 20000 in
theorem tb_m_settings_109 {G : GG} {k36 : (Nat × Int32 × Int32 × Int32 × Int32) → Hp → Option (Int32 × Hp)} (hk36 : ∀ s h, T G M_m_settings 4 cI 36 [(0, .ref s.1), (1, .int s.2.1), (2, .int s.2.2.1), (4, .int s.2.2.2.1), (5, .int s.2.2.2.2)] [] h (k36 s h)) {k74 : (Nat × Int32 × Int32 × Int32 × Int32 × Int32 × Int32) → Hp → Option (Int32 × Hp)} (hk74 : ∀ s h, T G M_m_settings 4 cI 74 [(0, .ref s.1), (1, .int s.2.1), (2, .int s.2.2.1), (4, .int s.2.2.2.1), (5, .int s.2.2.2.2.1), (6, .int s.2.2.2.2.2.1), (7, .int s.2.2.2.2.2.2)] [] h (k74 s h)) (v0 : Nat) (v1 : Int32) (v2 : Int32) (v4 : Int32) (v5 : Int32) (v7 : Int32) (s0 : Int32) (s1 : Int32) (h : Hp) : T G M_m_settings 4 cI 109 [(0, .ref v0), (1, .int v1), (2, .int v2), (4, .int v4), (5, .int v5), (7, .int v7)] [.int s0, .int s1] h (b_m_settings_109 k36 k74 v0 v1 v2 v4 v5 v7 s0 s1 h) := by
  unfold b_m_settings_109
  refine q_iadd (pc := 109) (dq D_m_settings_0_ok 58 rfl) ?_
  refine r_nmI (fun y1 => ?_)
  refine q_istore (pc := 110) (ls' := [(6, .int y1), (0, .ref v0), (1, .int v1), (2, .int v2), (4, .int v4), (5, .int v5), (7, .int v7)]) (dq D_m_settings_0_ok 59 rfl) rfl rfl ?_
  refine q_iinc (pc := 112) (v := (1)) (ls' := [(7, .int (v7 + 1)), (6, .int y1), (0, .ref v0), (1, .int v1), (2, .int v2), (4, .int v4), (5, .int v5)]) (dq D_m_settings_1_ok 0 rfl) 6 rfl (by decide) rfl rfl ?_
  refine q_goto (pc := 115) 74 (dq D_m_settings_1_ok 1 rfl) rfl ?_
  exact T.lsub [2, 3, 4, 5, 6, 1, 0] rfl (hk74 (v0, v1, v2, v4, v5, y1, v7 + 1) h)
noncomputable def b_m_settings_74 (k36 : (Nat × Int32 × Int32 × Int32 × Int32) → Hp → Option (Int32 × Hp)) (k74 : (Nat × Int32 × Int32 × Int32 × Int32 × Int32 × Int32) → Hp → Option (Int32 × Hp)) (v0 : Nat) (v1 : Int32) (v2 : Int32) (v4 : Int32) (v5 : Int32) (v6 : Int32) (v7 : Int32) (h : Hp) : Option (Int32 × Hp) := gd (hS h v0 = some (.inl 11)) (bR (hR h v0 3) fun x1 => gd (hS h x1 = some (.inl 12)) (bR (hR h x1 11) fun x2 => gd (ai h x2 0 v5) (lt (hI h x2 v5.toNatClampNeg) fun x3 => if x3 ≤ v7 then (lt (v4 * v6 : Int32) fun y4 => b_m_settings_125 k36 v0 v1 v2 y4 v5 h) else (gd (hS h v0 = some (.inl 11)) (bd (f_m_leadsTo v0 v5 v1 v7 v2 h) fun r6 h5 => if r6 = 0 then (b_m_settings_109 k36 k74 v0 v1 v2 v4 v5 v7 0 v6 h5) else (b_m_settings_109 k36 k74 v0 v1 v2 v4 v5 v7 1 v6 h5))))))
set_option maxHeartbeats 4000000 in
set_option maxRecDepth 20000 in
theorem tb_m_settings_74 {G : GG} {k36 : (Nat × Int32 × Int32 × Int32 × Int32) → Hp → Option (Int32 × Hp)} (hk36 : ∀ s h, T G M_m_settings 4 cI 36 [(0, .ref s.1), (1, .int s.2.1), (2, .int s.2.2.1), (4, .int s.2.2.2.1), (5, .int s.2.2.2.2)] [] h (k36 s h)) {k74 : (Nat × Int32 × Int32 × Int32 × Int32 × Int32 × Int32) → Hp → Option (Int32 × Hp)} (hk74 : ∀ s h, T G M_m_settings 4 cI 74 [(0, .ref s.1), (1, .int s.2.1), (2, .int s.2.2.1), (4, .int s.2.2.2.1), (5, .int s.2.2.2.2.1), (6, .int s.2.2.2.2.2.1), (7, .int s.2.2.2.2.2.2)] [] h (k74 s h)) (v0 : Nat) (v1 : Int32) (v2 : Int32) (v4 : Int32) (v5 : Int32) (v6 : Int32) (v7 : Int32) (h : Hp) : T G M_m_settings 4 cI 74 [(0, .ref v0), (1, .int v1), (2, .int v2), (4, .int v4), (5, .int v5), (6, .int v6), (7, .int v7)] [] h (b_m_settings_74 k36 k74 v0 v1 v2 v4 v5 v6 v7 h) := by
  unfold b_m_settings_74
  refine q_iload (pc := 74) (dq D_m_settings_0_ok 40 rfl) 6 rfl ?_
  refine q_aload_n (pc := 76) (dq D_m_settings_0_ok 41 rfl) rfl 0 rfl ?_
  refine q_getR (pc := 77) (dq D_m_settings_0_ok 42 rfl) fa_m_348 rfl (fun x1 => ?_)
  refine q_getR (pc := 80) (dq D_m_settings_0_ok 43 rfl) fa_m_269 rfl (fun x2 => ?_)
  refine q_iload (pc := 83) (dq D_m_settings_0_ok 44 rfl) 4 rfl ?_
  refine r_iald (pc := 85) (dq D_m_settings_0_ok 45 rfl) (fun x3 => ?_)
  refine q_ic_ge (pc := 86) 118 (dq D_m_settings_0_ok 46 rfl) rfl ?_ ?_
  · refine q_iload (pc := 118) (dq D_m_settings_1_ok 2 rfl) 3 rfl ?_
    refine q_iload (pc := 120) (dq D_m_settings_1_ok 3 rfl) 5 rfl ?_
    refine q_imul (pc := 122) (dq D_m_settings_1_ok 4 rfl) ?_
    refine r_nmI (fun y4 => ?_)
    refine q_istore (pc := 123) (ls' := [(4, .int y4), (0, .ref v0), (1, .int v1), (2, .int v2), (5, .int v5), (6, .int v6), (7, .int v7)]) (dq D_m_settings_1_ok 5 rfl) rfl rfl ?_
    exact T.lsub [1, 2, 3, 0, 4] rfl (tb_m_settings_125 hk36 v0 v1 v2 y4 v5 h)
  · refine q_iload (pc := 89) (dq D_m_settings_0_ok 47 rfl) 5 rfl ?_
    refine q_aload_n (pc := 91) (dq D_m_settings_0_ok 48 rfl) rfl 0 rfl ?_
    refine q_iload (pc := 92) (dq D_m_settings_0_ok 49 rfl) 4 rfl ?_
    refine q_iload_n (pc := 94) (dq D_m_settings_0_ok 50 rfl) rfl 1 rfl ?_
    refine q_iload (pc := 95) (dq D_m_settings_0_ok 51 rfl) 6 rfl ?_
    refine q_iload_n (pc := 97) (dq D_m_settings_0_ok 52 rfl) rfl 2 rfl ?_
    refine r_invI (Mc := M_m_leadsTo) (pc := 98) (ci := 11) (rest := [.int v6]) 3 4 [.int v5, .int v1, .int v7, .int v2] (dq D_m_settings_0_ok 53 rfl) rfl rfl lc_m_leadsTo lv_m_leadsTo_ ml_m_412 rfl rfl rfl rfl (t_m_leadsTo v0 v5 v1 v7 v2 h) (fun r6 h5 => ?_)
    refine p_if_eq (pc := 101) 108 (dq D_m_settings_0_ok 54 rfl) rfl ?_ ?_
    · refine q_ic0 (pc := 108) (dq D_m_settings_0_ok 57 rfl) ?_
      exact T.lsub [0, 1, 2, 3, 4, 6] rfl (tb_m_settings_109 hk36 hk74 v0 v1 v2 v4 v5 v7 0 v6 h5)
    · refine q_ic1 (pc := 104) (dq D_m_settings_0_ok 55 rfl) ?_
      refine q_goto (pc := 105) 109 (dq D_m_settings_0_ok 56 rfl) rfl ?_
      exact T.lsub [0, 1, 2, 3, 4, 6] rfl (tb_m_settings_109 hk36 hk74 v0 v1 v2 v4 v5 v7 1 v6 h5)
noncomputable def l_m_settings_74 (k36 : (Nat × Int32 × Int32 × Int32 × Int32) → Hp → Option (Int32 × Hp)) : Nat → (Nat × Int32 × Int32 × Int32 × Int32 × Int32 × Int32) → Hp → Option (Int32 × Hp) := lp (fun k74 s h => b_m_settings_74 k36 k74 s.1 s.2.1 s.2.2.1 s.2.2.2.1 s.2.2.2.2.1 s.2.2.2.2.2.1 s.2.2.2.2.2.2 h)
set_option maxHeartbeats 4000000 in
set_option maxRecDepth 20000 in
theorem tl_m_settings_74 {G : GG} {k36 : (Nat × Int32 × Int32 × Int32 × Int32) → Hp → Option (Int32 × Hp)} (hk36 : ∀ s h, T G M_m_settings 4 cI 36 [(0, .ref s.1), (1, .int s.2.1), (2, .int s.2.2.1), (4, .int s.2.2.2.1), (5, .int s.2.2.2.2)] [] h (k36 s h)) (n : Nat) (s : Nat × Int32 × Int32 × Int32 × Int32 × Int32 × Int32) (h : Hp) : T G M_m_settings 4 cI 74 [(0, .ref s.1), (1, .int s.2.1), (2, .int s.2.2.1), (4, .int s.2.2.2.1), (5, .int s.2.2.2.2.1), (6, .int s.2.2.2.2.2.1), (7, .int s.2.2.2.2.2.2)] [] h (l_m_settings_74 k36 n s h) :=
  T.loop (lsOf := fun s => [(0, .ref s.1), (1, .int s.2.1), (2, .int s.2.2.1), (4, .int s.2.2.2.1), (5, .int s.2.2.2.2.1), (6, .int s.2.2.2.2.2.1), (7, .int s.2.2.2.2.2.2)]) (fun k74 hk74 s h => tb_m_settings_74 hk36 hk74 s.1 s.2.1 s.2.2.1 s.2.2.2.1 s.2.2.2.2.1 s.2.2.2.2.2.1 s.2.2.2.2.2.2 h) n s h
noncomputable def b_m_settings_36 (k36 : (Nat × Int32 × Int32 × Int32 × Int32) → Hp → Option (Int32 × Hp)) (v0 : Nat) (v1 : Int32) (v2 : Int32) (v4 : Int32) (v5 : Int32) (h : Hp) : Option (Int32 × Hp) := gd (hS h v0 = some (.inl 11)) (bR (hR h v0 3) fun x1 => gd (hS h x1 = some (.inl 12)) (lt (hI h x1 2) fun x2 => if x2 ≤ v5 then (gd (hS h v0 = some (.inl 11)) (bd (f_m_good v0 v4 h) fun r4 h3 => some (r4, h3))) else (gd (hS h v0 = some (.inl 11)) (bR (hR h v0 3) fun x5 => gd (hS h x5 = some (.inl 12)) (bR (hR h x5 16) fun x6 => gd (ai h x6 0 v1) (lt (hI h x6 v1.toNatClampNeg) fun x7 => bd (f_m_bit x7 v5 h) fun r9 h8 => if r9 = 0 then (b_m_settings_125 k36 v0 v1 v2 v4 v5 h8) else (lt (0 : Int32) fun y10 => lt (0 : Int32) fun y11 => l_m_settings_74 k36 FU (v0, v1, v2, v4, v5, y10, y11) h8)))))))
set_option maxHeartbeats 4000000 in
set_option maxRecDepth 20000 in
theorem tb_m_settings_36 {G : GG} {k36 : (Nat × Int32 × Int32 × Int32 × Int32) → Hp → Option (Int32 × Hp)} (hk36 : ∀ s h, T G M_m_settings 4 cI 36 [(0, .ref s.1), (1, .int s.2.1), (2, .int s.2.2.1), (4, .int s.2.2.2.1), (5, .int s.2.2.2.2)] [] h (k36 s h)) (v0 : Nat) (v1 : Int32) (v2 : Int32) (v4 : Int32) (v5 : Int32) (h : Hp) : T G M_m_settings 4 cI 36 [(0, .ref v0), (1, .int v1), (2, .int v2), (4, .int v4), (5, .int v5)] [] h (b_m_settings_36 k36 v0 v1 v2 v4 v5 h) := by
  unfold b_m_settings_36
  refine q_iload (pc := 36) (dq D_m_settings_0_ok 22 rfl) 4 rfl ?_
  refine q_aload_n (pc := 38) (dq D_m_settings_0_ok 23 rfl) rfl 0 rfl ?_
  refine q_getR (pc := 39) (dq D_m_settings_0_ok 24 rfl) fa_m_348 rfl (fun x1 => ?_)
  refine r_getI (pc := 42) (dq D_m_settings_0_ok 25 rfl) fa_m_205 rfl (fun x2 => ?_)
  refine q_ic_ge (pc := 45) 131 (dq D_m_settings_0_ok 26 rfl) rfl ?_ ?_
  · refine q_aload_n (pc := 131) (dq D_m_settings_1_ok 8 rfl) rfl 0 rfl ?_
    refine q_iload (pc := 132) (dq D_m_settings_1_ok 9 rfl) 3 rfl ?_
    refine r_invI (Mc := M_m_good) (pc := 134) (ci := 11) (rest := []) 0 1 [.int v4] (dq D_m_settings_1_ok 10 rfl) rfl rfl lc_m_good lv_m_good_ ml_m_64 rfl rfl rfl rfl (t_m_good v0 v4 h) (fun r4 h3 => ?_)
    exact r_reti (pc := 137) (dq D_m_settings_1_ok 11 rfl) rfl
  · refine q_aload_n (pc := 48) (dq D_m_settings_0_ok 27 rfl) rfl 0 rfl ?_
    refine q_getR (pc := 49) (dq D_m_settings_0_ok 28 rfl) fa_m_348 rfl (fun x5 => ?_)
    refine q_getR (pc := 52) (dq D_m_settings_0_ok 29 rfl) fa_m_297 rfl (fun x6 => ?_)
    refine q_iload_n (pc := 55) (dq D_m_settings_0_ok 30 rfl) rfl 1 rfl ?_
    refine r_iald (pc := 56) (dq D_m_settings_0_ok 31 rfl) (fun x7 => ?_)
    refine q_iload (pc := 57) (dq D_m_settings_0_ok 32 rfl) 4 rfl ?_
    refine r_insI (Mc := M_m_bit) (pc := 59) (rest := []) 0 2 [.int x7, .int v5] (dq D_m_settings_0_ok 33 rfl) lc_m_bit ls_m_bit ml_m_292 rfl rfl rfl rfl (t_m_bit x7 v5 h) (fun r9 h8 => ?_)
    refine p_if_ne (pc := 62) 68 (dq D_m_settings_0_ok 34 rfl) rfl ?_ ?_
    · refine q_ic0 (pc := 68) (dq D_m_settings_0_ok 36 rfl) ?_
      refine r_nmI (fun y10 => ?_)
      refine q_istore (pc := 69) (ls' := [(6, .int y10), (0, .ref v0), (1, .int v1), (2, .int v2), (4, .int v4), (5, .int v5)]) (dq D_m_settings_0_ok 37 rfl) rfl rfl ?_
      refine q_ic0 (pc := 71) (dq D_m_settings_0_ok 38 rfl) ?_
      refine r_nmI (fun y11 => ?_)
      refine q_istore (pc := 72) (ls' := [(7, .int y11), (6, .int y10), (0, .ref v0), (1, .int v1), (2, .int v2), (4, .int v4), (5, .int v5)]) (dq D_m_settings_0_ok 39 rfl) rfl rfl ?_
      exact T.lsub [2, 3, 4, 5, 6, 1, 0] rfl (tl_m_settings_74 hk36 FU (v0, v1, v2, v4, v5, y10, y11) h8)
    · refine q_goto (pc := 65) 125 (dq D_m_settings_0_ok 35 rfl) rfl ?_
      exact T.lsub [0, 1, 2, 3, 4] rfl (tb_m_settings_125 hk36 v0 v1 v2 v4 v5 h8)
noncomputable def l_m_settings_36 : Nat → (Nat × Int32 × Int32 × Int32 × Int32) → Hp → Option (Int32 × Hp) := lp (fun k36 s h => b_m_settings_36 k36 s.1 s.2.1 s.2.2.1 s.2.2.2.1 s.2.2.2.2 h)
set_option maxHeartbeats 4000000 in
set_option maxRecDepth 20000 in
theorem tl_m_settings_36 {G : GG} (n : Nat) (s : Nat × Int32 × Int32 × Int32 × Int32) (h : Hp) : T G M_m_settings 4 cI 36 [(0, .ref s.1), (1, .int s.2.1), (2, .int s.2.2.1), (4, .int s.2.2.2.1), (5, .int s.2.2.2.2)] [] h (l_m_settings_36 n s h) :=
  T.loop (lsOf := fun s => [(0, .ref s.1), (1, .int s.2.1), (2, .int s.2.2.1), (4, .int s.2.2.2.1), (5, .int s.2.2.2.2)]) (fun k36 hk36 s h => tb_m_settings_36 hk36 s.1 s.2.1 s.2.2.1 s.2.2.2.1 s.2.2.2.2 h) n s h
noncomputable def f_m_settings (v0 : Nat) (v1 : Int32) (v2 : Int32) (h : Hp) : Option (Int32 × Hp) := gd (hS h v0 = some (.inl 11)) (lt (uI h v0 0 0) fun h1 => gd (hS h1 v0 = some (.inl 11)) (bd (f_m_isFeast v0 v1 h1) fun r3 h2 => gd (hS h2 v0 = some (.inl 11)) (bd (f_m_refusesDays v0 r3 v2 (1 : Int32) (5000 : Int32) h2) fun r5 h4 => if r5 ≤ 0 then (lt (1 : Int32) fun y6 => lt (0 : Int32) fun y7 => l_m_settings_36 FU (v0, v1, v2, y6, y7) h4) else (gd (hS h4 v0 = some (.inl 11)) (bd (f_m_refused v0 r5 h4) fun r9 h8 => some (r9, h8))))))
set_option maxHeartbeats 4000000 in
set_option maxRecDepth 20000 in
theorem t_m_settings {G : GG} (v0 : Nat) (v1 : Int32) (v2 : Int32) (h : Hp) : Mt G M_m_settings 4 [.ref v0, .int v1, .int v2] cI h (f_m_settings v0 v1 v2 h) := by
  refine Mt.ofF (by decide +kernel) rfl (Rt.i rfl rfl) ?_
  show T G M_m_settings 4 cI 0 [(0, .ref v0), (1, .int v1), (2, .int v2)] [] h _
  unfold f_m_settings
  refine q_aload_n (pc := 0) (dq D_m_settings_0_ok 0 rfl) rfl 0 rfl ?_
  refine q_ic0 (pc := 1) (dq D_m_settings_0_ok 1 rfl) ?_
  refine r_putI (pc := 2) (dq D_m_settings_0_ok 2 rfl) fp_m_54 rfl rfl (fun h1 => ?_)
  refine q_aload_n (pc := 5) (dq D_m_settings_0_ok 3 rfl) rfl 0 rfl ?_
  refine q_aload_n (pc := 6) (dq D_m_settings_0_ok 4 rfl) rfl 0 rfl ?_
  refine q_iload_n (pc := 7) (dq D_m_settings_0_ok 5 rfl) rfl 1 rfl ?_
  refine r_invI (Mc := M_m_isFeast) (pc := 8) (ci := 11) (rest := [.ref v0]) 0 1 [.int v1] (dq D_m_settings_0_ok 6 rfl) rfl rfl lc_m_isFeast lv_m_isFeast_ ml_m_360 rfl rfl rfl rfl (t_m_isFeast v0 v1 h1) (fun r3 h2 => ?_)
  refine q_iload_n (pc := 11) (dq D_m_settings_0_ok 7 rfl) rfl 2 rfl ?_
  refine q_ic1 (pc := 12) (dq D_m_settings_0_ok 8 rfl) ?_
  refine q_sipush (pc := 13) (v := 5000) (dq D_m_settings_0_ok 9 rfl) (by decide) ?_
  refine r_invI (Mc := M_m_refusesDays) (pc := 16) (ci := 11) (rest := []) 1 4 [.int r3, .int v2, .int 1, .int 5000] (dq D_m_settings_0_ok 10 rfl) rfl rfl lc_m_refusesDays lv_m_refusesDays_ ml_m_392 rfl rfl rfl rfl (t_m_refusesDays v0 r3 v2 (1 : Int32) (5000 : Int32) h2) (fun r5 h4 => ?_)
  refine q_istore_n (pc := 19) (ls' := [(3, .int r5), (0, .ref v0), (1, .int v1), (2, .int v2)]) (dq D_m_settings_0_ok 11 rfl) rfl rfl rfl ?_
  refine q_iload_n (pc := 20) (dq D_m_settings_0_ok 12 rfl) rfl 0 rfl ?_
  refine p_if_le (pc := 21) 30 (dq D_m_settings_0_ok 13 rfl) rfl ?_ ?_
  · refine q_ic1 (pc := 30) (dq D_m_settings_0_ok 18 rfl) ?_
    refine r_nmI (fun y6 => ?_)
    refine q_istore (pc := 31) (ls' := [(4, .int y6), (3, .int r5), (0, .ref v0), (1, .int v1), (2, .int v2)]) (dq D_m_settings_0_ok 19 rfl) rfl rfl ?_
    refine q_ic0 (pc := 33) (dq D_m_settings_0_ok 20 rfl) ?_
    refine r_nmI (fun y7 => ?_)
    refine q_istore (pc := 34) (ls' := [(5, .int y7), (4, .int y6), (3, .int r5), (0, .ref v0), (1, .int v1), (2, .int v2)]) (dq D_m_settings_0_ok 21 rfl) rfl rfl ?_
    exact T.lsub [3, 4, 5, 1, 0] rfl (tl_m_settings_36 FU (v0, v1, v2, y6, y7) h4)
  · refine q_aload_n (pc := 24) (dq D_m_settings_0_ok 14 rfl) rfl 1 rfl ?_
    refine q_iload_n (pc := 25) (dq D_m_settings_0_ok 15 rfl) rfl 0 rfl ?_
    refine r_invI (Mc := M_m_refused) (pc := 26) (ci := 11) (rest := []) 0 1 [.int r5] (dq D_m_settings_0_ok 16 rfl) rfl rfl lc_m_refused lv_m_refused_ ml_m_60 rfl rfl rfl rfl (t_m_refused v0 r5 h4) (fun r9 h8 => ?_)
    exact r_reti (pc := 29) (dq D_m_settings_0_ok 17 rfl) rfl
noncomputable def f_m_swaps (v0 : Nat) (v1 : Int32) (v2 : Int32) (h : Hp) : Option (Unit × Hp) := gd (hS h v0 = some (.inl 11)) (bR (hR h v0 24) fun x1 => gd (ai h x1 0 v1) (lt (hI h x1 v1.toNatClampNeg) fun x2 => gd (hS h v0 = some (.inl 11)) (bR (hR h v0 24) fun x3 => gd (hS h v0 = some (.inl 11)) (bR (hR h v0 24) fun x4 => gd (ai h x4 0 v2) (lt (hI h x4 v2.toNatClampNeg) fun x5 => gd (ai h x3 0 v1) (lt (uI h x3 v1.toNatClampNeg x5) fun h6 => gd (hS h6 v0 = some (.inl 11)) (bR (hR h6 v0 24) fun x7 => gd (ai h6 x7 0 v2) (lt (uI h6 x7 v2.toNatClampNeg x2) fun h8 => some ((), h8)))))))))
set_option maxHeartbeats 4000000 in
set_option maxRecDepth 20000 in
theorem t_m_swaps {G : GG} (v0 : Nat) (v1 : Int32) (v2 : Int32) (h : Hp) : Mt G M_m_swaps 0 [.ref v0, .int v1, .int v2] cU h (f_m_swaps v0 v1 v2 h) := by
  refine Mt.ofF (by decide +kernel) rfl (Rt.v rfl rfl) ?_
  show T G M_m_swaps 0 cU 0 [(0, .ref v0), (1, .int v1), (2, .int v2)] [] h _
  unfold f_m_swaps
  refine q_aload_n (pc := 0) (dq D_m_swaps_0_ok 0 rfl) rfl 0 rfl ?_
  refine q_getR (pc := 1) (dq D_m_swaps_0_ok 1 rfl) fa_m_33 rfl (fun x1 => ?_)
  refine q_iload_n (pc := 4) (dq D_m_swaps_0_ok 2 rfl) rfl 1 rfl ?_
  refine r_iald (pc := 5) (dq D_m_swaps_0_ok 3 rfl) (fun x2 => ?_)
  refine q_istore_n (pc := 6) (ls' := [(3, .int x2), (0, .ref v0), (1, .int v1), (2, .int v2)]) (dq D_m_swaps_0_ok 4 rfl) rfl rfl rfl ?_
  refine q_aload_n (pc := 7) (dq D_m_swaps_0_ok 5 rfl) rfl 1 rfl ?_
  refine q_getR (pc := 8) (dq D_m_swaps_0_ok 6 rfl) fa_m_33 rfl (fun x3 => ?_)
  refine q_iload_n (pc := 11) (dq D_m_swaps_0_ok 7 rfl) rfl 2 rfl ?_
  refine q_aload_n (pc := 12) (dq D_m_swaps_0_ok 8 rfl) rfl 1 rfl ?_
  refine q_getR (pc := 13) (dq D_m_swaps_0_ok 9 rfl) fa_m_33 rfl (fun x4 => ?_)
  refine q_iload_n (pc := 16) (dq D_m_swaps_0_ok 10 rfl) rfl 3 rfl ?_
  refine r_iald (pc := 17) (dq D_m_swaps_0_ok 11 rfl) (fun x5 => ?_)
  refine r_iast (pc := 18) (dq D_m_swaps_0_ok 12 rfl) (fun h6 => ?_)
  refine q_aload_n (pc := 19) (dq D_m_swaps_0_ok 13 rfl) rfl 1 rfl ?_
  refine q_getR (pc := 20) (dq D_m_swaps_0_ok 14 rfl) fa_m_33 rfl (fun x7 => ?_)
  refine q_iload_n (pc := 23) (dq D_m_swaps_0_ok 15 rfl) rfl 3 rfl ?_
  refine q_iload_n (pc := 24) (dq D_m_swaps_0_ok 16 rfl) rfl 0 rfl ?_
  refine r_iast (pc := 25) (dq D_m_swaps_0_ok 17 rfl) (fun h8 => ?_)
  exact r_retu (pc := 26) (dq D_m_swaps_0_ok 18 rfl) rfl
noncomputable def b_m_nextOrder_95 (k95 : (Nat × Int32 × Int32) → Hp → Option (Int32 × Hp)) (v0 : Nat) (v3 : Int32) (v4 : Int32) (h : Hp) : Option (Int32 × Hp) := if v4 ≤ v3 then (gd (zb 1) (some (1, h))) else (gd (hS h v0 = some (.inl 11)) (bd (f_m_swaps v0 v3 v4 h) fun _ h1 => k95 (v0, v3 + 1, v4 + (-1)) h1))
set_option maxHeartbeats 4000000 in
set_option maxRecDepth 20000 in
theorem tb_m_nextOrder_95 {G : GG} {k95 : (Nat × Int32 × Int32) → Hp → Option (Int32 × Hp)} (hk95 : ∀ s h, T G M_m_nextOrder 1 cI 95 [(0, .ref s.1), (3, .int s.2.1), (4, .int s.2.2)] [] h (k95 s h)) (v0 : Nat) (v3 : Int32) (v4 : Int32) (h : Hp) : T G M_m_nextOrder 1 cI 95 [(0, .ref v0), (3, .int v3), (4, .int v4)] [] h (b_m_nextOrder_95 k95 v0 v3 v4 h) := by
  unfold b_m_nextOrder_95
  refine q_iload_n (pc := 95) (dq D_m_nextOrder_0_ok 56 rfl) rfl 1 rfl ?_
  refine q_iload (pc := 96) (dq D_m_nextOrder_0_ok 57 rfl) 2 rfl ?_
  refine q_ic_ge (pc := 98) 117 (dq D_m_nextOrder_0_ok 58 rfl) rfl ?_ ?_
  · refine q_ic1 (pc := 117) (dq D_m_nextOrder_1_ok 6 rfl) ?_
    exact r_retz (pc := 118) (dq D_m_nextOrder_1_ok 7 rfl) rfl
  · refine q_aload_n (pc := 101) (dq D_m_nextOrder_0_ok 59 rfl) rfl 0 rfl ?_
    refine q_iload_n (pc := 102) (dq D_m_nextOrder_1_ok 0 rfl) rfl 1 rfl ?_
    refine q_iload (pc := 103) (dq D_m_nextOrder_1_ok 1 rfl) 2 rfl ?_
    refine r_invU (Mc := M_m_swaps) (pc := 105) (ci := 11) (rest := []) 0 2 [.int v3, .int v4] (dq D_m_nextOrder_1_ok 2 rfl) rfl rfl lc_m_swaps lv_m_swaps_ ml_m_422 rfl rfl rfl rfl (t_m_swaps v0 v3 v4 h) (fun _ h1 => ?_)
    refine q_iinc (pc := 108) (v := (1)) (ls' := [(3, .int (v3 + 1)), (0, .ref v0), (4, .int v4)]) (dq D_m_nextOrder_1_ok 3 rfl) 1 rfl (by decide) rfl rfl ?_
    refine q_iinc (pc := 111) (v := (-1)) (ls' := [(4, .int (v4 + (-1))), (3, .int (v3 + 1)), (0, .ref v0)]) (dq D_m_nextOrder_1_ok 4 rfl) 2 rfl (by decide) rfl rfl ?_
    refine q_goto (pc := 114) 95 (dq D_m_nextOrder_1_ok 5 rfl) rfl ?_
    exact T.lsub [2, 1, 0] rfl (hk95 (v0, v3 + 1, v4 + (-1)) h1)
noncomputable def l_m_nextOrder_95 : Nat → (Nat × Int32 × Int32) → Hp → Option (Int32 × Hp) := lp (fun k95 s h => b_m_nextOrder_95 k95 s.1 s.2.1 s.2.2 h)
set_option maxHeartbeats 4000000 in
set_option maxRecDepth 20000 in
theorem tl_m_nextOrder_95 {G : GG} (n : Nat) (s : Nat × Int32 × Int32) (h : Hp) : T G M_m_nextOrder 1 cI 95 [(0, .ref s.1), (3, .int s.2.1), (4, .int s.2.2)] [] h (l_m_nextOrder_95 n s h) :=
  T.loop (lsOf := fun s => [(0, .ref s.1), (3, .int s.2.1), (4, .int s.2.2)]) (fun k95 hk95 s h => tb_m_nextOrder_95 hk95 s.1 s.2.1 s.2.2 h) n s h
noncomputable def b_m_nextOrder_53 (k53 : (Nat × Int32 × Int32) → Hp → Option (Int32 × Hp)) (v0 : Nat) (v1 : Int32) (v2 : Int32) (h : Hp) : Option (Int32 × Hp) := gd (hS h v0 = some (.inl 11)) (bR (hR h v0 24) fun x1 => gd (ai h x1 0 v2) (lt (hI h x1 v2.toNatClampNeg) fun x2 => gd (hS h v0 = some (.inl 11)) (bR (hR h v0 24) fun x3 => gd (ai h x3 0 v1) (lt (hI h x3 v1.toNatClampNeg) fun x4 => if x4 ≤ x2 then (gd (hS h v0 = some (.inl 11)) (bd (f_m_swaps v0 v1 v2 h) fun _ h5 => lt (v1 + 1 : Int32) fun y7 => gd (hS h5 v0 = some (.inl 11)) (bR (hR h5 v0 3) fun x8 => gd (hS h5 x8 = some (.inl 12)) (lt (hI h5 x8 5) fun x9 => lt (x9 - 1 : Int32) fun y10 => l_m_nextOrder_95 FU (v0, y7, y10) h5)))) else (k53 (v0, v1, v2 + (-1)) h)))))
set_option maxHeartbeats 4000000 in
set_option maxRecDepth 20000 in
theorem tb_m_nextOrder_53 {G : GG} {k53 : (Nat × Int32 × Int32) → Hp → Option (Int32 × Hp)} (hk53 : ∀ s h, T G M_m_nextOrder 1 cI 53 [(0, .ref s.1), (1, .int s.2.1), (2, .int s.2.2)] [] h (k53 s h)) (v0 : Nat) (v1 : Int32) (v2 : Int32) (h : Hp) : T G M_m_nextOrder 1 cI 53 [(0, .ref v0), (1, .int v1), (2, .int v2)] [] h (b_m_nextOrder_53 k53 v0 v1 v2 h) := by
  unfold b_m_nextOrder_53
  refine q_aload_n (pc := 53) (dq D_m_nextOrder_0_ok 31 rfl) rfl 0 rfl ?_
  refine q_getR (pc := 54) (dq D_m_nextOrder_0_ok 32 rfl) fa_m_33 rfl (fun x1 => ?_)
  refine q_iload_n (pc := 57) (dq D_m_nextOrder_0_ok 33 rfl) rfl 2 rfl ?_
  refine r_iald (pc := 58) (dq D_m_nextOrder_0_ok 34 rfl) (fun x2 => ?_)
  refine q_aload_n (pc := 59) (dq D_m_nextOrder_0_ok 35 rfl) rfl 0 rfl ?_
  refine q_getR (pc := 60) (dq D_m_nextOrder_0_ok 36 rfl) fa_m_33 rfl (fun x3 => ?_)
  refine q_iload_n (pc := 63) (dq D_m_nextOrder_0_ok 37 rfl) rfl 1 rfl ?_
  refine r_iald (pc := 64) (dq D_m_nextOrder_0_ok 38 rfl) (fun x4 => ?_)
  refine q_ic_ge (pc := 65) 74 (dq D_m_nextOrder_0_ok 39 rfl) rfl ?_ ?_
  · refine q_aload_n (pc := 74) (dq D_m_nextOrder_0_ok 42 rfl) rfl 0 rfl ?_
    refine q_iload_n (pc := 75) (dq D_m_nextOrder_0_ok 43 rfl) rfl 1 rfl ?_
    refine q_iload_n (pc := 76) (dq D_m_nextOrder_0_ok 44 rfl) rfl 2 rfl ?_
    refine r_invU (Mc := M_m_swaps) (pc := 77) (ci := 11) (rest := []) 0 2 [.int v1, .int v2] (dq D_m_nextOrder_0_ok 45 rfl) rfl rfl lc_m_swaps lv_m_swaps_ ml_m_422 rfl rfl rfl rfl (t_m_swaps v0 v1 v2 h) (fun _ h5 => ?_)
    refine q_iload_n (pc := 80) (dq D_m_nextOrder_0_ok 46 rfl) rfl 1 rfl ?_
    refine q_ic1 (pc := 81) (dq D_m_nextOrder_0_ok 47 rfl) ?_
    refine q_iadd (pc := 82) (dq D_m_nextOrder_0_ok 48 rfl) ?_
    refine r_nmI (fun y7 => ?_)
    refine q_istore_n (pc := 83) (ls' := [(3, .int y7), (0, .ref v0), (1, .int v1), (2, .int v2)]) (dq D_m_nextOrder_0_ok 49 rfl) rfl rfl rfl ?_
    refine q_aload_n (pc := 84) (dq D_m_nextOrder_0_ok 50 rfl) rfl 1 rfl ?_
    refine q_getR (pc := 85) (dq D_m_nextOrder_0_ok 51 rfl) fa_m_348 rfl (fun x8 => ?_)
    refine r_getI (pc := 88) (dq D_m_nextOrder_0_ok 52 rfl) fa_m_300 rfl (fun x9 => ?_)
    refine q_ic1 (pc := 91) (dq D_m_nextOrder_0_ok 53 rfl) ?_
    refine q_isub (pc := 92) (dq D_m_nextOrder_0_ok 54 rfl) ?_
    refine r_nmI (fun y10 => ?_)
    refine q_istore (pc := 93) (ls' := [(4, .int y10), (3, .int y7), (0, .ref v0), (1, .int v1), (2, .int v2)]) (dq D_m_nextOrder_0_ok 55 rfl) rfl rfl ?_
    exact T.lsub [2, 1, 0] rfl (tl_m_nextOrder_95 FU (v0, y7, y10) h5)
  · refine q_iinc (pc := 68) (v := (-1)) (ls' := [(2, .int (v2 + (-1))), (0, .ref v0), (1, .int v1)]) (dq D_m_nextOrder_0_ok 40 rfl) 2 rfl (by decide) rfl rfl ?_
    refine q_goto (pc := 71) 53 (dq D_m_nextOrder_0_ok 41 rfl) rfl ?_
    exact T.lsub [1, 2, 0] rfl (hk53 (v0, v1, v2 + (-1)) h)
noncomputable def l_m_nextOrder_53 : Nat → (Nat × Int32 × Int32) → Hp → Option (Int32 × Hp) := lp (fun k53 s h => b_m_nextOrder_53 k53 s.1 s.2.1 s.2.2 h)
set_option maxHeartbeats 4000000 in
set_option maxRecDepth 20000 in
theorem tl_m_nextOrder_53 {G : GG} (n : Nat) (s : Nat × Int32 × Int32) (h : Hp) : T G M_m_nextOrder 1 cI 53 [(0, .ref s.1), (1, .int s.2.1), (2, .int s.2.2)] [] h (l_m_nextOrder_53 n s h) :=
  T.loop (lsOf := fun s => [(0, .ref s.1), (1, .int s.2.1), (2, .int s.2.2)]) (fun k53 hk53 s h => tb_m_nextOrder_53 hk53 s.1 s.2.1 s.2.2 h) n s h
noncomputable def b_m_nextOrder_37 (v0 : Nat) (v1 : Int32) (h : Hp) : Option (Int32 × Hp) := if 0 ≤ v1 then (gd (hS h v0 = some (.inl 11)) (bR (hR h v0 3) fun x1 => gd (hS h x1 = some (.inl 12)) (lt (hI h x1 5) fun x2 => lt (x2 - 1 : Int32) fun y3 => l_m_nextOrder_53 FU (v0, v1, y3) h))) else (gd (zb 0) (some (0, h)))
set_option maxHeartbeats 4000000 in
set_option maxRecDepth 20000 in
theorem tb_m_nextOrder_37 {G : GG} (v0 : Nat) (v1 : Int32) (h : Hp) : T G M_m_nextOrder 1 cI 37 [(0, .ref v0), (1, .int v1)] [] h (b_m_nextOrder_37 v0 v1 h) := by
  unfold b_m_nextOrder_37
  refine q_iload_n (pc := 37) (dq D_m_nextOrder_0_ok 21 rfl) rfl 1 rfl ?_
  refine p_if_ge (pc := 38) 43 (dq D_m_nextOrder_0_ok 22 rfl) rfl ?_ ?_
  · refine q_aload_n (pc := 43) (dq D_m_nextOrder_0_ok 25 rfl) rfl 0 rfl ?_
    refine q_getR (pc := 44) (dq D_m_nextOrder_0_ok 26 rfl) fa_m_348 rfl (fun x1 => ?_)
    refine r_getI (pc := 47) (dq D_m_nextOrder_0_ok 27 rfl) fa_m_300 rfl (fun x2 => ?_)
    refine q_ic1 (pc := 50) (dq D_m_nextOrder_0_ok 28 rfl) ?_
    refine q_isub (pc := 51) (dq D_m_nextOrder_0_ok 29 rfl) ?_
    refine r_nmI (fun y3 => ?_)
    refine q_istore_n (pc := 52) (ls' := [(2, .int y3), (0, .ref v0), (1, .int v1)]) (dq D_m_nextOrder_0_ok 30 rfl) rfl rfl rfl ?_
    exact T.lsub [1, 2, 0] rfl (tl_m_nextOrder_53 FU (v0, v1, y3) h)
  · refine q_ic0 (pc := 41) (dq D_m_nextOrder_0_ok 23 rfl) ?_
    exact r_retz (pc := 42) (dq D_m_nextOrder_0_ok 24 rfl) rfl
noncomputable def b_m_nextOrder_10 (k10 : (Nat × Int32) → Hp → Option (Int32 × Hp)) (v0 : Nat) (v1 : Int32) (h : Hp) : Option (Int32 × Hp) := if v1 < 0 then (b_m_nextOrder_37 v0 v1 h) else (gd (hS h v0 = some (.inl 11)) (bR (hR h v0 24) fun x1 => gd (ai h x1 0 v1) (lt (hI h x1 v1.toNatClampNeg) fun x2 => gd (hS h v0 = some (.inl 11)) (bR (hR h v0 24) fun x3 => gd (ai h x3 0 (v1 + 1)) (lt (hI h x3 (v1 + 1).toNatClampNeg) fun x4 => if x2 ≤ x4 then (b_m_nextOrder_37 v0 v1 h) else (k10 (v0, v1 + (-1)) h))))))
set_option maxHeartbeats 4000000 in
set_option maxRecDepth 20000 in
theorem tb_m_nextOrder_10 {G : GG} {k10 : (Nat × Int32) → Hp → Option (Int32 × Hp)} (hk10 : ∀ s h, T G M_m_nextOrder 1 cI 10 [(0, .ref s.1), (1, .int s.2)] [] h (k10 s h)) (v0 : Nat) (v1 : Int32) (h : Hp) : T G M_m_nextOrder 1 cI 10 [(0, .ref v0), (1, .int v1)] [] h (b_m_nextOrder_10 k10 v0 v1 h) := by
  unfold b_m_nextOrder_10
  refine q_iload_n (pc := 10) (dq D_m_nextOrder_0_ok 6 rfl) rfl 1 rfl ?_
  refine p_if_lt (pc := 11) 37 (dq D_m_nextOrder_0_ok 7 rfl) rfl ?_ ?_
  · exact T.lsub [0, 1] rfl (tb_m_nextOrder_37 v0 v1 h)
  · refine q_aload_n (pc := 14) (dq D_m_nextOrder_0_ok 8 rfl) rfl 0 rfl ?_
    refine q_getR (pc := 15) (dq D_m_nextOrder_0_ok 9 rfl) fa_m_33 rfl (fun x1 => ?_)
    refine q_iload_n (pc := 18) (dq D_m_nextOrder_0_ok 10 rfl) rfl 1 rfl ?_
    refine r_iald (pc := 19) (dq D_m_nextOrder_0_ok 11 rfl) (fun x2 => ?_)
    refine q_aload_n (pc := 20) (dq D_m_nextOrder_0_ok 12 rfl) rfl 0 rfl ?_
    refine q_getR (pc := 21) (dq D_m_nextOrder_0_ok 13 rfl) fa_m_33 rfl (fun x3 => ?_)
    refine q_iload_n (pc := 24) (dq D_m_nextOrder_0_ok 14 rfl) rfl 1 rfl ?_
    refine q_ic1 (pc := 25) (dq D_m_nextOrder_0_ok 15 rfl) ?_
    refine q_iadd (pc := 26) (dq D_m_nextOrder_0_ok 16 rfl) ?_
    refine r_iald (pc := 27) (dq D_m_nextOrder_0_ok 17 rfl) (fun x4 => ?_)
    refine q_ic_le (pc := 28) 37 (dq D_m_nextOrder_0_ok 18 rfl) rfl ?_ ?_
    · exact T.lsub [0, 1] rfl (tb_m_nextOrder_37 v0 v1 h)
    · refine q_iinc (pc := 31) (v := (-1)) (ls' := [(1, .int (v1 + (-1))), (0, .ref v0)]) (dq D_m_nextOrder_0_ok 19 rfl) 1 rfl (by decide) rfl rfl ?_
      refine q_goto (pc := 34) 10 (dq D_m_nextOrder_0_ok 20 rfl) rfl ?_
      exact T.lsub [1, 0] rfl (hk10 (v0, v1 + (-1)) h)
noncomputable def l_m_nextOrder_10 : Nat → (Nat × Int32) → Hp → Option (Int32 × Hp) := lp (fun k10 s h => b_m_nextOrder_10 k10 s.1 s.2 h)
set_option maxHeartbeats 4000000 in
set_option maxRecDepth 20000 in
theorem tl_m_nextOrder_10 {G : GG} (n : Nat) (s : Nat × Int32) (h : Hp) : T G M_m_nextOrder 1 cI 10 [(0, .ref s.1), (1, .int s.2)] [] h (l_m_nextOrder_10 n s h) :=
  T.loop (lsOf := fun s => [(0, .ref s.1), (1, .int s.2)]) (fun k10 hk10 s h => tb_m_nextOrder_10 hk10 s.1 s.2 h) n s h
noncomputable def f_m_nextOrder (v0 : Nat) (h : Hp) : Option (Int32 × Hp) := gd (hS h v0 = some (.inl 11)) (bR (hR h v0 3) fun x1 => gd (hS h x1 = some (.inl 12)) (lt (hI h x1 5) fun x2 => lt (x2 - 2 : Int32) fun y3 => l_m_nextOrder_10 FU (v0, y3) h))
set_option maxHeartbeats 4000000 in
set_option maxRecDepth 20000 in
theorem t_m_nextOrder {G : GG} (v0 : Nat) (h : Hp) : Mt G M_m_nextOrder 1 [.ref v0] cI h (f_m_nextOrder v0 h) := by
  refine Mt.ofF (by decide +kernel) rfl (Rt.z rfl rfl) ?_
  show T G M_m_nextOrder 1 cI 0 [(0, .ref v0)] [] h _
  unfold f_m_nextOrder
  refine q_aload_n (pc := 0) (dq D_m_nextOrder_0_ok 0 rfl) rfl 0 rfl ?_
  refine q_getR (pc := 1) (dq D_m_nextOrder_0_ok 1 rfl) fa_m_348 rfl (fun x1 => ?_)
  refine r_getI (pc := 4) (dq D_m_nextOrder_0_ok 2 rfl) fa_m_300 rfl (fun x2 => ?_)
  refine q_ic2 (pc := 7) (dq D_m_nextOrder_0_ok 3 rfl) ?_
  refine q_isub (pc := 8) (dq D_m_nextOrder_0_ok 4 rfl) ?_
  refine r_nmI (fun y3 => ?_)
  refine q_istore_n (pc := 9) (ls' := [(1, .int y3), (0, .ref v0)]) (dq D_m_nextOrder_0_ok 5 rfl) rfl rfl rfl ?_
  exact T.lsub [1, 0] rfl (tl_m_nextOrder_10 FU (v0, y3) h)
noncomputable def b_m_timely_78 (k6 : (Nat × Int32 × Int32 × Int32) → Hp → Option (Int32 × Hp)) (v0 : Nat) (v1 : Int32) (v3 : Int32) (s0 : Int32) (s1 : Int32) (h : Hp) : Option (Int32 × Hp) := lt (s1 ||| s0 : Int32) fun y1 => k6 (v0, v1, y1, v3 + 1) h
set_option maxHeartbeats 4000000 in
set_option maxRecDepth 20000 in
theorem tb_m_timely_78 {G : GG} {k6 : (Nat × Int32 × Int32 × Int32) → Hp → Option (Int32 × Hp)} (hk6 : ∀ s h, T G M_m_timely 0 cI 6 [(0, .ref s.1), (1, .int s.2.1), (2, .int s.2.2.1), (3, .int s.2.2.2)] [] h (k6 s h)) (v0 : Nat) (v1 : Int32) (v3 : Int32) (s0 : Int32) (s1 : Int32) (h : Hp) : T G M_m_timely 0 cI 78 [(0, .ref v0), (1, .int v1), (3, .int v3)] [.int s0, .int s1] h (b_m_timely_78 k6 v0 v1 v3 s0 s1 h) := by
  unfold b_m_timely_78
  refine q_ior (pc := 78) (dq D_m_timely_0_ok 49 rfl) ?_
  refine r_nmI (fun y1 => ?_)
  refine q_istore_n (pc := 79) (ls' := [(2, .int y1), (0, .ref v0), (1, .int v1), (3, .int v3)]) (dq D_m_timely_0_ok 50 rfl) rfl rfl rfl ?_
  refine q_iinc (pc := 80) (v := (1)) (ls' := [(3, .int (v3 + 1)), (2, .int y1), (0, .ref v0), (1, .int v1)]) (dq D_m_timely_0_ok 51 rfl) 3 rfl (by decide) rfl rfl ?_
  refine q_goto (pc := 83) 6 (dq D_m_timely_0_ok 52 rfl) rfl ?_
  exact T.lsub [2, 3, 1, 0] rfl (hk6 (v0, v1, y1, v3 + 1) h)
noncomputable def b_m_timely_77 (k6 : (Nat × Int32 × Int32 × Int32) → Hp → Option (Int32 × Hp)) (v0 : Nat) (v1 : Int32) (v3 : Int32) (s0 : Int32) (h : Hp) : Option (Int32 × Hp) := b_m_timely_78 k6 v0 v1 v3 0 s0 h
set_option maxHeartbeats 4000000 in
set_option maxRecDepth 20000 in
theorem tb_m_timely_77 {G : GG} {k6 : (Nat × Int32 × Int32 × Int32) → Hp → Option (Int32 × Hp)} (hk6 : ∀ s h, T G M_m_timely 0 cI 6 [(0, .ref s.1), (1, .int s.2.1), (2, .int s.2.2.1), (3, .int s.2.2.2)] [] h (k6 s h)) (v0 : Nat) (v1 : Int32) (v3 : Int32) (s0 : Int32) (h : Hp) : T G M_m_timely 0 cI 77 [(0, .ref v0), (1, .int v1), (3, .int v3)] [.int s0] h (b_m_timely_77 k6 v0 v1 v3 s0 h) := by
  unfold b_m_timely_77
  refine q_ic0 (pc := 77) (dq D_m_timely_0_ok 48 rfl) ?_
  exact T.lsub [0, 1, 2] rfl (tb_m_timely_78 hk6 v0 v1 v3 0 s0 h)
noncomputable def b_m_timely_6 (k6 : (Nat × Int32 × Int32 × Int32) → Hp → Option (Int32 × Hp)) (v0 : Nat) (v1 : Int32) (v2 : Int32) (v3 : Int32) (h : Hp) : Option (Int32 × Hp) := gd (hS h v0 = some (.inl 11)) (bR (hR h v0 3) fun x1 => gd (hS h x1 = some (.inl 12)) (lt (hI h x1 5) fun x2 => if x2 ≤ v3 then (some (v2, h)) else (gd (hS h v0 = some (.inl 11)) (bR (hR h v0 3) fun x3 => gd (hS h x3 = some (.inl 12)) (bR (hR h x3 19) fun x4 => gd (hS h v0 = some (.inl 11)) (bR (hR h v0 24) fun x5 => gd (ai h x5 0 v3) (lt (hI h x5 v3.toNatClampNeg) fun x6 => gd (ai h x4 0 x6) (lt (hI h x4 x6.toNatClampNeg) fun x7 => lt (v1 + x7 : Int32) fun y8 => gd (hS h v0 = some (.inl 11)) (bR (hR h v0 26) fun x9 => gd (hS h v0 = some (.inl 11)) (bR (hR h v0 24) fun x10 => gd (ai h x10 0 v3) (lt (hI h x10 v3.toNatClampNeg) fun x11 => gd (ai h x9 0 x11) (lt (hI h x9 x11.toNatClampNeg) fun x12 => if x12 = ((-2)) then (b_m_timely_77 k6 v0 y8 v3 v2 h) else (gd (hS h v0 = some (.inl 11)) (bR (hR h v0 26) fun x13 => gd (hS h v0 = some (.inl 11)) (bR (hR h v0 24) fun x14 => gd (ai h x14 0 v3) (lt (hI h x14 v3.toNatClampNeg) fun x15 => gd (ai h x13 0 x15) (lt (hI h x13 x15.toNatClampNeg) fun x16 => if x16 < y8 then (b_m_timely_77 k6 v0 y8 v3 v2 h) else (gd (hS h v0 = some (.inl 11)) (bR (hR h v0 24) fun x17 => gd (ai h x17 0 v3) (lt (hI h x17 v3.toNatClampNeg) fun x18 => b_m_timely_78 k6 v0 y8 v3 ((1 : Int32) <<< (x18 &&& 31)) v2 h))))))))))))))))))))
set_option maxHeartbeats 4000000 in
set_option maxRecDepth 20000 in
theorem tb_m_timely_6 {G : GG} {k6 : (Nat × Int32 × Int32 × Int32) → Hp → Option (Int32 × Hp)} (hk6 : ∀ s h, T G M_m_timely 0 cI 6 [(0, .ref s.1), (1, .int s.2.1), (2, .int s.2.2.1), (3, .int s.2.2.2)] [] h (k6 s h)) (v0 : Nat) (v1 : Int32) (v2 : Int32) (v3 : Int32) (h : Hp) : T G M_m_timely 0 cI 6 [(0, .ref v0), (1, .int v1), (2, .int v2), (3, .int v3)] [] h (b_m_timely_6 k6 v0 v1 v2 v3 h) := by
  unfold b_m_timely_6
  refine q_iload_n (pc := 6) (dq D_m_timely_0_ok 6 rfl) rfl 3 rfl ?_
  refine q_aload_n (pc := 7) (dq D_m_timely_0_ok 7 rfl) rfl 0 rfl ?_
  refine q_getR (pc := 8) (dq D_m_timely_0_ok 8 rfl) fa_m_348 rfl (fun x1 => ?_)
  refine r_getI (pc := 11) (dq D_m_timely_0_ok 9 rfl) fa_m_300 rfl (fun x2 => ?_)
  refine q_ic_ge (pc := 14) 86 (dq D_m_timely_0_ok 10 rfl) rfl ?_ ?_
  · refine q_iload_n (pc := 86) (dq D_m_timely_0_ok 53 rfl) rfl 2 rfl ?_
    exact r_reti (pc := 87) (dq D_m_timely_0_ok 54 rfl) rfl
  · refine q_iload_n (pc := 17) (dq D_m_timely_0_ok 11 rfl) rfl 1 rfl ?_
    refine q_aload_n (pc := 18) (dq D_m_timely_0_ok 12 rfl) rfl 0 rfl ?_
    refine q_getR (pc := 19) (dq D_m_timely_0_ok 13 rfl) fa_m_348 rfl (fun x3 => ?_)
    refine q_getR (pc := 22) (dq D_m_timely_0_ok 14 rfl) fa_m_310 rfl (fun x4 => ?_)
    refine q_aload_n (pc := 25) (dq D_m_timely_0_ok 15 rfl) rfl 0 rfl ?_
    refine q_getR (pc := 26) (dq D_m_timely_0_ok 16 rfl) fa_m_33 rfl (fun x5 => ?_)
    refine q_iload_n (pc := 29) (dq D_m_timely_0_ok 17 rfl) rfl 3 rfl ?_
    refine r_iald (pc := 30) (dq D_m_timely_0_ok 18 rfl) (fun x6 => ?_)
    refine r_iald (pc := 31) (dq D_m_timely_0_ok 19 rfl) (fun x7 => ?_)
    refine q_iadd (pc := 32) (dq D_m_timely_0_ok 20 rfl) ?_
    refine r_nmI (fun y8 => ?_)
    refine q_istore_n (pc := 33) (ls' := [(1, .int y8), (0, .ref v0), (2, .int v2), (3, .int v3)]) (dq D_m_timely_0_ok 21 rfl) rfl rfl rfl ?_
    refine q_iload_n (pc := 34) (dq D_m_timely_0_ok 22 rfl) rfl 2 rfl ?_
    refine q_aload_n (pc := 35) (dq D_m_timely_0_ok 23 rfl) rfl 1 rfl ?_
    refine q_getR (pc := 36) (dq D_m_timely_0_ok 24 rfl) fa_m_39 rfl (fun x9 => ?_)
    refine q_aload_n (pc := 39) (dq D_m_timely_0_ok 25 rfl) rfl 1 rfl ?_
    refine q_getR (pc := 40) (dq D_m_timely_0_ok 26 rfl) fa_m_33 rfl (fun x10 => ?_)
    refine q_iload_n (pc := 43) (dq D_m_timely_0_ok 27 rfl) rfl 3 rfl ?_
    refine r_iald (pc := 44) (dq D_m_timely_0_ok 28 rfl) (fun x11 => ?_)
    refine r_iald (pc := 45) (dq D_m_timely_0_ok 29 rfl) (fun x12 => ?_)
    refine q_bipush (pc := 46) (v := (-2)) (dq D_m_timely_0_ok 30 rfl) (by decide) ?_
    refine q_ic_eq (pc := 48) 77 (dq D_m_timely_0_ok 31 rfl) rfl ?_ ?_
    · exact T.lsub [1, 0, 3] rfl (tb_m_timely_77 hk6 v0 y8 v3 v2 h)
    · refine q_iload_n (pc := 51) (dq D_m_timely_0_ok 32 rfl) rfl 0 rfl ?_
      refine q_aload_n (pc := 52) (dq D_m_timely_0_ok 33 rfl) rfl 1 rfl ?_
      refine q_getR (pc := 53) (dq D_m_timely_0_ok 34 rfl) fa_m_39 rfl (fun x13 => ?_)
      refine q_aload_n (pc := 56) (dq D_m_timely_0_ok 35 rfl) rfl 1 rfl ?_
      refine q_getR (pc := 57) (dq D_m_timely_0_ok 36 rfl) fa_m_33 rfl (fun x14 => ?_)
      refine q_iload_n (pc := 60) (dq D_m_timely_0_ok 37 rfl) rfl 3 rfl ?_
      refine r_iald (pc := 61) (dq D_m_timely_0_ok 38 rfl) (fun x15 => ?_)
      refine r_iald (pc := 62) (dq D_m_timely_0_ok 39 rfl) (fun x16 => ?_)
      refine q_ic_gt (pc := 63) 77 (dq D_m_timely_0_ok 40 rfl) rfl ?_ ?_
      · exact T.lsub [1, 0, 3] rfl (tb_m_timely_77 hk6 v0 y8 v3 v2 h)
      · refine q_ic1 (pc := 66) (dq D_m_timely_0_ok 41 rfl) ?_
        refine q_aload_n (pc := 67) (dq D_m_timely_0_ok 42 rfl) rfl 1 rfl ?_
        refine q_getR (pc := 68) (dq D_m_timely_0_ok 43 rfl) fa_m_33 rfl (fun x17 => ?_)
        refine q_iload_n (pc := 71) (dq D_m_timely_0_ok 44 rfl) rfl 3 rfl ?_
        refine r_iald (pc := 72) (dq D_m_timely_0_ok 45 rfl) (fun x18 => ?_)
        refine q_ishl (pc := 73) (dq D_m_timely_0_ok 46 rfl) ?_
        refine q_goto (pc := 74) 78 (dq D_m_timely_0_ok 47 rfl) rfl ?_
        exact T.lsub [1, 0, 3] rfl (tb_m_timely_78 hk6 v0 y8 v3 ((1 : Int32) <<< (x18 &&& 31)) v2 h)
noncomputable def l_m_timely_6 : Nat → (Nat × Int32 × Int32 × Int32) → Hp → Option (Int32 × Hp) := lp (fun k6 s h => b_m_timely_6 k6 s.1 s.2.1 s.2.2.1 s.2.2.2 h)
set_option maxHeartbeats 4000000 in
set_option maxRecDepth 20000 in
theorem tl_m_timely_6 {G : GG} (n : Nat) (s : Nat × Int32 × Int32 × Int32) (h : Hp) : T G M_m_timely 0 cI 6 [(0, .ref s.1), (1, .int s.2.1), (2, .int s.2.2.1), (3, .int s.2.2.2)] [] h (l_m_timely_6 n s h) :=
  T.loop (lsOf := fun s => [(0, .ref s.1), (1, .int s.2.1), (2, .int s.2.2.1), (3, .int s.2.2.2)]) (fun k6 hk6 s h => tb_m_timely_6 hk6 s.1 s.2.1 s.2.2.1 s.2.2.2 h) n s h
noncomputable def f_m_timely (v0 : Nat) (h : Hp) : Option (Int32 × Hp) := lt (0 : Int32) fun y1 => lt (0 : Int32) fun y2 => lt (0 : Int32) fun y3 => l_m_timely_6 FU (v0, y1, y2, y3) h
set_option maxHeartbeats 4000000 in
set_option maxRecDepth 20000 in
theorem t_m_timely {G : GG} (v0 : Nat) (h : Hp) : Mt G M_m_timely 0 [.ref v0] cI h (f_m_timely v0 h) := by
  refine Mt.ofF (by decide +kernel) rfl (Rt.i rfl rfl) ?_
  show T G M_m_timely 0 cI 0 [(0, .ref v0)] [] h _
  unfold f_m_timely
  refine q_ic0 (pc := 0) (dq D_m_timely_0_ok 0 rfl) ?_
  refine r_nmI (fun y1 => ?_)
  refine q_istore_n (pc := 1) (ls' := [(1, .int y1), (0, .ref v0)]) (dq D_m_timely_0_ok 1 rfl) rfl rfl rfl ?_
  refine q_ic0 (pc := 2) (dq D_m_timely_0_ok 2 rfl) ?_
  refine r_nmI (fun y2 => ?_)
  refine q_istore_n (pc := 3) (ls' := [(2, .int y2), (1, .int y1), (0, .ref v0)]) (dq D_m_timely_0_ok 3 rfl) rfl rfl rfl ?_
  refine q_ic0 (pc := 4) (dq D_m_timely_0_ok 4 rfl) ?_
  refine r_nmI (fun y3 => ?_)
  refine q_istore_n (pc := 5) (ls' := [(3, .int y3), (2, .int y2), (1, .int y1), (0, .ref v0)]) (dq D_m_timely_0_ok 5 rfl) rfl rfl rfl ?_
  exact T.lsub [3, 2, 1, 0] rfl (tl_m_timely_6 FU (v0, y1, y2, y3) h)
noncomputable def b_m_worthOf_37 (k4 : (Nat × Int32 × Int32 × Int32) → Hp → Option (Int32 × Hp)) (v0 : Nat) (v1 : Int32) (v3 : Int32) (s0 : Int32) (s1 : Int32) (h : Hp) : Option (Int32 × Hp) := lt (s1 + s0 : Int32) fun y1 => k4 (v0, v1, y1, v3 + 1) h
set_option maxHeartbeats 4000000 in
set_option maxRecDepth 20000 in
theorem tb_m_worthOf_37 {G : GG} {k4 : (Nat × Int32 × Int32 × Int32) → Hp → Option (Int32 × Hp)} (hk4 : ∀ s h, T G M_m_worthOf 1 cI 4 [(0, .ref s.1), (1, .int s.2.1), (2, .int s.2.2.1), (3, .int s.2.2.2)] [] h (k4 s h)) (v0 : Nat) (v1 : Int32) (v3 : Int32) (s0 : Int32) (s1 : Int32) (h : Hp) : T G M_m_worthOf 1 cI 37 [(0, .ref v0), (1, .int v1), (3, .int v3)] [.int s0, .int s1] h (b_m_worthOf_37 k4 v0 v1 v3 s0 s1 h) := by
  unfold b_m_worthOf_37
  refine q_iadd (pc := 37) (dq D_m_worthOf_0_ok 21 rfl) ?_
  refine r_nmI (fun y1 => ?_)
  refine q_istore_n (pc := 38) (ls' := [(2, .int y1), (0, .ref v0), (1, .int v1), (3, .int v3)]) (dq D_m_worthOf_0_ok 22 rfl) rfl rfl rfl ?_
  refine q_iinc (pc := 39) (v := (1)) (ls' := [(3, .int (v3 + 1)), (2, .int y1), (0, .ref v0), (1, .int v1)]) (dq D_m_worthOf_0_ok 23 rfl) 3 rfl (by decide) rfl rfl ?_
  refine q_goto (pc := 42) 4 (dq D_m_worthOf_0_ok 24 rfl) rfl ?_
  exact T.lsub [2, 3, 1, 0] rfl (hk4 (v0, v1, y1, v3 + 1) h)
noncomputable def b_m_worthOf_4 (k4 : (Nat × Int32 × Int32 × Int32) → Hp → Option (Int32 × Hp)) (v0 : Nat) (v1 : Int32) (v2 : Int32) (v3 : Int32) (h : Hp) : Option (Int32 × Hp) := gd (hS h v0 = some (.inl 11)) (bR (hR h v0 3) fun x1 => gd (hS h x1 = some (.inl 12)) (lt (hI h x1 5) fun x2 => if x2 ≤ v3 then (some (v2, h)) else (bd (f_m_bit v1 v3 h) fun r4 h3 => if r4 = 0 then (b_m_worthOf_37 k4 v0 v1 v3 0 v2 h3) else (gd (hS h3 v0 = some (.inl 11)) (bR (hR h3 v0 3) fun x5 => gd (hS h3 x5 = some (.inl 12)) (bR (hR h3 x5 20) fun x6 => gd (ai h3 x6 0 v3) (lt (hI h3 x6 v3.toNatClampNeg) fun x7 => b_m_worthOf_37 k4 v0 v1 v3 x7 v2 h3)))))))
set_option maxHeartbeats 4000000 in
set_option maxRecDepth 20000 in
theorem tb_m_worthOf_4 {G : GG} {k4 : (Nat × Int32 × Int32 × Int32) → Hp → Option (Int32 × Hp)} (hk4 : ∀ s h, T G M_m_worthOf 1 cI 4 [(0, .ref s.1), (1, .int s.2.1), (2, .int s.2.2.1), (3, .int s.2.2.2)] [] h (k4 s h)) (v0 : Nat) (v1 : Int32) (v2 : Int32) (v3 : Int32) (h : Hp) : T G M_m_worthOf 1 cI 4 [(0, .ref v0), (1, .int v1), (2, .int v2), (3, .int v3)] [] h (b_m_worthOf_4 k4 v0 v1 v2 v3 h) := by
  unfold b_m_worthOf_4
  refine q_iload_n (pc := 4) (dq D_m_worthOf_0_ok 4 rfl) rfl 3 rfl ?_
  refine q_aload_n (pc := 5) (dq D_m_worthOf_0_ok 5 rfl) rfl 0 rfl ?_
  refine q_getR (pc := 6) (dq D_m_worthOf_0_ok 6 rfl) fa_m_348 rfl (fun x1 => ?_)
  refine r_getI (pc := 9) (dq D_m_worthOf_0_ok 7 rfl) fa_m_300 rfl (fun x2 => ?_)
  refine q_ic_ge (pc := 12) 45 (dq D_m_worthOf_0_ok 8 rfl) rfl ?_ ?_
  · refine q_iload_n (pc := 45) (dq D_m_worthOf_0_ok 25 rfl) rfl 2 rfl ?_
    exact r_reti (pc := 46) (dq D_m_worthOf_0_ok 26 rfl) rfl
  · refine q_iload_n (pc := 15) (dq D_m_worthOf_0_ok 9 rfl) rfl 2 rfl ?_
    refine q_iload_n (pc := 16) (dq D_m_worthOf_0_ok 10 rfl) rfl 1 rfl ?_
    refine q_iload_n (pc := 17) (dq D_m_worthOf_0_ok 11 rfl) rfl 3 rfl ?_
    refine r_insI (Mc := M_m_bit) (pc := 18) (rest := [.int v2]) 0 2 [.int v1, .int v3] (dq D_m_worthOf_0_ok 12 rfl) lc_m_bit ls_m_bit ml_m_292 rfl rfl rfl rfl (t_m_bit v1 v3 h) (fun r4 h3 => ?_)
    refine p_if_eq (pc := 21) 36 (dq D_m_worthOf_0_ok 13 rfl) rfl ?_ ?_
    · refine q_ic0 (pc := 36) (dq D_m_worthOf_0_ok 20 rfl) ?_
      exact T.lsub [0, 1, 3] rfl (tb_m_worthOf_37 hk4 v0 v1 v3 0 v2 h3)
    · refine q_aload_n (pc := 24) (dq D_m_worthOf_0_ok 14 rfl) rfl 0 rfl ?_
      refine q_getR (pc := 25) (dq D_m_worthOf_0_ok 15 rfl) fa_m_348 rfl (fun x5 => ?_)
      refine q_getR (pc := 28) (dq D_m_worthOf_0_ok 16 rfl) fa_m_312 rfl (fun x6 => ?_)
      refine q_iload_n (pc := 31) (dq D_m_worthOf_0_ok 17 rfl) rfl 3 rfl ?_
      refine r_iald (pc := 32) (dq D_m_worthOf_0_ok 18 rfl) (fun x7 => ?_)
      refine q_goto (pc := 33) 37 (dq D_m_worthOf_0_ok 19 rfl) rfl ?_
      exact T.lsub [0, 1, 3] rfl (tb_m_worthOf_37 hk4 v0 v1 v3 x7 v2 h3)
noncomputable def l_m_worthOf_4 : Nat → (Nat × Int32 × Int32 × Int32) → Hp → Option (Int32 × Hp) := lp (fun k4 s h => b_m_worthOf_4 k4 s.1 s.2.1 s.2.2.1 s.2.2.2 h)
set_option maxHeartbeats 4000000 in
set_option maxRecDepth 20000 in
theorem tl_m_worthOf_4 {G : GG} (n : Nat) (s : Nat × Int32 × Int32 × Int32) (h : Hp) : T G M_m_worthOf 1 cI 4 [(0, .ref s.1), (1, .int s.2.1), (2, .int s.2.2.1), (3, .int s.2.2.2)] [] h (l_m_worthOf_4 n s h) :=
  T.loop (lsOf := fun s => [(0, .ref s.1), (1, .int s.2.1), (2, .int s.2.2.1), (3, .int s.2.2.2)]) (fun k4 hk4 s h => tb_m_worthOf_4 hk4 s.1 s.2.1 s.2.2.1 s.2.2.2 h) n s h
noncomputable def f_m_worthOf (v0 : Nat) (v1 : Int32) (h : Hp) : Option (Int32 × Hp) := lt (0 : Int32) fun y1 => lt (0 : Int32) fun y2 => l_m_worthOf_4 FU (v0, v1, y1, y2) h
set_option maxHeartbeats 4000000 in
set_option maxRecDepth 20000 in
theorem t_m_worthOf {G : GG} (v0 : Nat) (v1 : Int32) (h : Hp) : Mt G M_m_worthOf 1 [.ref v0, .int v1] cI h (f_m_worthOf v0 v1 h) := by
  refine Mt.ofF (by decide +kernel) rfl (Rt.i rfl rfl) ?_
  show T G M_m_worthOf 1 cI 0 [(0, .ref v0), (1, .int v1)] [] h _
  unfold f_m_worthOf
  refine q_ic0 (pc := 0) (dq D_m_worthOf_0_ok 0 rfl) ?_
  refine r_nmI (fun y1 => ?_)
  refine q_istore_n (pc := 1) (ls' := [(2, .int y1), (0, .ref v0), (1, .int v1)]) (dq D_m_worthOf_0_ok 1 rfl) rfl rfl rfl ?_
  refine q_ic0 (pc := 2) (dq D_m_worthOf_0_ok 2 rfl) ?_
  refine r_nmI (fun y2 => ?_)
  refine q_istore_n (pc := 3) (ls' := [(3, .int y2), (2, .int y1), (0, .ref v0), (1, .int v1)]) (dq D_m_worthOf_0_ok 3 rfl) rfl rfl rfl ?_
  exact T.lsub [2, 3, 1, 0] rfl (tl_m_worthOf_4 FU (v0, v1, y1, y2) h)
noncomputable def b_m_lines_116 (k58 : (Nat × Int32 × Int32) → Hp → Option (Int32 × Hp)) (v0 : Nat) (v1 : Int32) (h : Hp) : Option (Int32 × Hp) := gd (hS h v0 = some (.inl 11)) (bd (f_m_nextOrder v0 h) fun r2 h1 => k58 (v0, v1, r2) h1)
set_option maxHeartbeats 4000000 in
set_option maxRecDepth 20000 in
theorem tb_m_lines_116 {G : GG} {k58 : (Nat × Int32 × Int32) → Hp → Option (Int32 × Hp)} (hk58 : ∀ s h, T G M_m_lines 4 cI 58 [(0, .ref s.1), (1, .int s.2.1), (2, .int s.2.2)] [] h (k58 s h)) (v0 : Nat) (v1 : Int32) (h : Hp) : T G M_m_lines 4 cI 116 [(0, .ref v0), (1, .int v1)] [] h (b_m_lines_116 k58 v0 v1 h) := by
  unfold b_m_lines_116
  refine q_aload_n (pc := 116) (dq D_m_lines_1_ok 6 rfl) rfl 0 rfl ?_
  refine r_invI (Mc := M_m_nextOrder) (pc := 117) (ci := 11) (rest := []) 1 0 [] (dq D_m_lines_1_ok 7 rfl) rfl rfl lc_m_nextOrder lv_m_nextOrder_ ml_m_434 rfl rfl rfl rfl (t_m_nextOrder v0 h) (fun r2 h1 => ?_)
  refine q_istore_n (pc := 120) (ls' := [(2, .int r2), (0, .ref v0), (1, .int v1)]) (dq D_m_lines_1_ok 8 rfl) rfl rfl rfl ?_
  refine q_goto (pc := 121) 58 (dq D_m_lines_1_ok 9 rfl) rfl ?_
  exact T.lsub [1, 2, 0] rfl (hk58 (v0, v1, r2) h1)
noncomputable def b_m_lines_90 (k58 : (Nat × Int32 × Int32) → Hp → Option (Int32 × Hp)) (k90 : (Nat × Int32 × Int32) → Hp → Option (Int32 × Hp)) (v0 : Nat) (v1 : Int32) (v4 : Int32) (h : Hp) : Option (Int32 × Hp) := if 4 ≤ v4 then (b_m_lines_116 k58 v0 v1 h) else (gd (hS h v0 = some (.inl 11)) (bR (hR h v0 25) fun x1 => gd (hS h v0 = some (.inl 11)) (bR (hR h v0 24) fun x2 => gd (ai h x2 0 v4) (lt (hI h x2 v4.toNatClampNeg) fun x3 => gd (ai h x1 0 v4) (lt (uI h x1 v4.toNatClampNeg x3) fun h4 => k90 (v0, v1, v4 + 1) h4)))))
set_option maxHeartbeats 4000000 in
set_option maxRecDepth 20000 in
theorem tb_m_lines_90 {G : GG} {k58 : (Nat × Int32 × Int32) → Hp → Option (Int32 × Hp)} (hk58 : ∀ s h, T G M_m_lines 4 cI 58 [(0, .ref s.1), (1, .int s.2.1), (2, .int s.2.2)] [] h (k58 s h)) {k90 : (Nat × Int32 × Int32) → Hp → Option (Int32 × Hp)} (hk90 : ∀ s h, T G M_m_lines 4 cI 90 [(0, .ref s.1), (1, .int s.2.1), (4, .int s.2.2)] [] h (k90 s h)) (v0 : Nat) (v1 : Int32) (v4 : Int32) (h : Hp) : T G M_m_lines 4 cI 90 [(0, .ref v0), (1, .int v1), (4, .int v4)] [] h (b_m_lines_90 k58 k90 v0 v1 v4 h) := by
  unfold b_m_lines_90
  refine q_iload (pc := 90) (dq D_m_lines_0_ok 53 rfl) 2 rfl ?_
  refine q_ic4 (pc := 92) (dq D_m_lines_0_ok 54 rfl) ?_
  refine q_ic_ge (pc := 93) 116 (dq D_m_lines_0_ok 55 rfl) rfl ?_ ?_
  · exact T.lsub [0, 1] rfl (tb_m_lines_116 hk58 v0 v1 h)
  · refine q_aload_n (pc := 96) (dq D_m_lines_0_ok 56 rfl) rfl 0 rfl ?_
    refine q_getR (pc := 97) (dq D_m_lines_0_ok 57 rfl) fa_m_36 rfl (fun x1 => ?_)
    refine q_iload (pc := 100) (dq D_m_lines_0_ok 58 rfl) 2 rfl ?_
    refine q_aload_n (pc := 102) (dq D_m_lines_0_ok 59 rfl) rfl 0 rfl ?_
    refine q_getR (pc := 103) (dq D_m_lines_1_ok 0 rfl) fa_m_33 rfl (fun x2 => ?_)
    refine q_iload (pc := 106) (dq D_m_lines_1_ok 1 rfl) 2 rfl ?_
    refine r_iald (pc := 108) (dq D_m_lines_1_ok 2 rfl) (fun x3 => ?_)
    refine r_iast (pc := 109) (dq D_m_lines_1_ok 3 rfl) (fun h4 => ?_)
    refine q_iinc (pc := 110) (v := (1)) (ls' := [(4, .int (v4 + 1)), (0, .ref v0), (1, .int v1)]) (dq D_m_lines_1_ok 4 rfl) 2 rfl (by decide) rfl rfl ?_
    refine q_goto (pc := 113) 90 (dq D_m_lines_1_ok 5 rfl) rfl ?_
    exact T.lsub [1, 2, 0] rfl (hk90 (v0, v1, v4 + 1) h4)
noncomputable def l_m_lines_90 (k58 : (Nat × Int32 × Int32) → Hp → Option (Int32 × Hp)) : Nat → (Nat × Int32 × Int32) → Hp → Option (Int32 × Hp) := lp (fun k90 s h => b_m_lines_90 k58 k90 s.1 s.2.1 s.2.2 h)
set_option maxHeartbeats 4000000 in
set_option maxRecDepth 20000 in
theorem tl_m_lines_90 {G : GG} {k58 : (Nat × Int32 × Int32) → Hp → Option (Int32 × Hp)} (hk58 : ∀ s h, T G M_m_lines 4 cI 58 [(0, .ref s.1), (1, .int s.2.1), (2, .int s.2.2)] [] h (k58 s h)) (n : Nat) (s : Nat × Int32 × Int32) (h : Hp) : T G M_m_lines 4 cI 90 [(0, .ref s.1), (1, .int s.2.1), (4, .int s.2.2)] [] h (l_m_lines_90 k58 n s h) :=
  T.loop (lsOf := fun s => [(0, .ref s.1), (1, .int s.2.1), (4, .int s.2.2)]) (fun k90 hk90 s h => tb_m_lines_90 hk58 hk90 s.1 s.2.1 s.2.2 h) n s h
noncomputable def b_m_lines_58 (k58 : (Nat × Int32 × Int32) → Hp → Option (Int32 × Hp)) (v0 : Nat) (v1 : Int32) (v2 : Int32) (h : Hp) : Option (Int32 × Hp) := if v2 = 0 then (some (v1, h)) else (gd (hS h v0 = some (.inl 11)) (bd (f_m_timely v0 h) fun r2 h1 => gd (hS h1 v0 = some (.inl 11)) (bd (f_m_worthOf v0 r2 h1) fun r4 h3 => if r4 ≤ v1 then (b_m_lines_116 k58 v0 v1 h3) else (gd (hS h3 v0 = some (.inl 11)) (bd (f_m_worthOf v0 r2 h3) fun r6 h5 => gd (hS h5 v0 = some (.inl 11)) (lt (uI h5 v0 27 r2) fun h7 => lt (0 : Int32) fun y8 => l_m_lines_90 k58 FU (v0, r6, y8) h7))))))
set_option maxHeartbeats 4000000 in
set_option maxRecDepth 20000 in
theorem tb_m_lines_58 {G : GG} {k58 : (Nat × Int32 × Int32) → Hp → Option (Int32 × Hp)} (hk58 : ∀ s h, T G M_m_lines 4 cI 58 [(0, .ref s.1), (1, .int s.2.1), (2, .int s.2.2)] [] h (k58 s h)) (v0 : Nat) (v1 : Int32) (v2 : Int32) (h : Hp) : T G M_m_lines 4 cI 58 [(0, .ref v0), (1, .int v1), (2, .int v2)] [] h (b_m_lines_58 k58 v0 v1 v2 h) := by
  unfold b_m_lines_58
  refine q_iload_n (pc := 58) (dq D_m_lines_0_ok 34 rfl) rfl 2 rfl ?_
  refine p_if_eq (pc := 59) 124 (dq D_m_lines_0_ok 35 rfl) rfl ?_ ?_
  · refine q_iload_n (pc := 124) (dq D_m_lines_1_ok 10 rfl) rfl 1 rfl ?_
    exact r_reti (pc := 125) (dq D_m_lines_1_ok 11 rfl) rfl
  · refine q_aload_n (pc := 62) (dq D_m_lines_0_ok 36 rfl) rfl 0 rfl ?_
    refine r_invI (Mc := M_m_timely) (pc := 63) (ci := 11) (rest := []) 0 0 [] (dq D_m_lines_0_ok 37 rfl) rfl rfl lc_m_timely lv_m_timely_ ml_m_425 rfl rfl rfl rfl (t_m_timely v0 h) (fun r2 h1 => ?_)
    refine q_istore_n (pc := 66) (ls' := [(3, .int r2), (0, .ref v0), (1, .int v1), (2, .int v2)]) (dq D_m_lines_0_ok 38 rfl) rfl rfl rfl ?_
    refine q_aload_n (pc := 67) (dq D_m_lines_0_ok 39 rfl) rfl 1 rfl ?_
    refine q_iload_n (pc := 68) (dq D_m_lines_0_ok 40 rfl) rfl 0 rfl ?_
    refine r_invI (Mc := M_m_worthOf) (pc := 69) (ci := 11) (rest := []) 1 1 [.int r2] (dq D_m_lines_0_ok 41 rfl) rfl rfl lc_m_worthOf lv_m_worthOf_ ml_m_428 rfl rfl rfl rfl (t_m_worthOf v0 r2 h1) (fun r4 h3 => ?_)
    refine q_iload_n (pc := 72) (dq D_m_lines_0_ok 42 rfl) rfl 2 rfl ?_
    refine q_ic_le (pc := 73) 116 (dq D_m_lines_0_ok 43 rfl) rfl ?_ ?_
    · exact T.lsub [1, 2] rfl (tb_m_lines_116 hk58 v0 v1 h3)
    · refine q_aload_n (pc := 76) (dq D_m_lines_0_ok 44 rfl) rfl 1 rfl ?_
      refine q_iload_n (pc := 77) (dq D_m_lines_0_ok 45 rfl) rfl 0 rfl ?_
      refine r_invI (Mc := M_m_worthOf) (pc := 78) (ci := 11) (rest := []) 1 1 [.int r2] (dq D_m_lines_0_ok 46 rfl) rfl rfl lc_m_worthOf lv_m_worthOf_ ml_m_428 rfl rfl rfl rfl (t_m_worthOf v0 r2 h3) (fun r6 h5 => ?_)
      refine q_istore_n (pc := 81) (ls' := [(1, .int r6), (3, .int r2), (0, .ref v0), (2, .int v2)]) (dq D_m_lines_0_ok 47 rfl) rfl rfl rfl ?_
      refine q_aload_n (pc := 82) (dq D_m_lines_0_ok 48 rfl) rfl 2 rfl ?_
      refine q_iload_n (pc := 83) (dq D_m_lines_0_ok 49 rfl) rfl 1 rfl ?_
      refine r_putI (pc := 84) (dq D_m_lines_0_ok 50 rfl) fp_m_431 rfl rfl (fun h7 => ?_)
      refine q_ic0 (pc := 87) (dq D_m_lines_0_ok 51 rfl) ?_
      refine r_nmI (fun y8 => ?_)
      refine q_istore (pc := 88) (ls' := [(4, .int y8), (1, .int r6), (3, .int r2), (0, .ref v0), (2, .int v2)]) (dq D_m_lines_0_ok 52 rfl) rfl rfl ?_
      exact T.lsub [3, 1, 0] rfl (tl_m_lines_90 hk58 FU (v0, r6, y8) h7)
noncomputable def l_m_lines_58 : Nat → (Nat × Int32 × Int32) → Hp → Option (Int32 × Hp) := lp (fun k58 s h => b_m_lines_58 k58 s.1 s.2.1 s.2.2 h)
set_option maxHeartbeats 4000000 in
set_option maxRecDepth 20000 in
theorem tl_m_lines_58 {G : GG} (n : Nat) (s : Nat × Int32 × Int32) (h : Hp) : T G M_m_lines 4 cI 58 [(0, .ref s.1), (1, .int s.2.1), (2, .int s.2.2)] [] h (l_m_lines_58 n s h) :=
  T.loop (lsOf := fun s => [(0, .ref s.1), (1, .int s.2.1), (2, .int s.2.2)]) (fun k58 hk58 s h => tb_m_lines_58 hk58 s.1 s.2.1 s.2.2 h) n s h
noncomputable def b_m_lines_4 (k4 : (Nat × Int32 × Int32) → Hp → Option (Int32 × Hp)) (v0 : Nat) (v1 : Int32) (v2 : Int32) (h : Hp) : Option (Int32 × Hp) := gd (hS h v0 = some (.inl 11)) (bR (hR h v0 3) fun x1 => gd (hS h x1 = some (.inl 12)) (lt (hI h x1 5) fun x2 => if x2 ≤ v2 then (lt (1 : Int32) fun y3 => l_m_lines_58 FU (v0, v1, y3) h) else (gd (hS h v0 = some (.inl 11)) (bR (hR h v0 24) fun x4 => gd (ai h x4 0 v2) (lt (uI h x4 v2.toNatClampNeg v2) fun h5 => gd (hS h5 v0 = some (.inl 11)) (bR (hR h5 v0 26) fun x6 => gd (hS h5 v0 = some (.inl 11)) (bR (hR h5 v0 3) fun x7 => gd (hS h5 x7 = some (.inl 12)) (bR (hR h5 x7 21) fun x8 => gd (ai h5 x8 0 v2) (lt (hI h5 x8 v2.toNatClampNeg) fun x9 => gd (hS h5 v0 = some (.inl 11)) (bR (hR h5 v0 3) fun x10 => gd (hS h5 x10 = some (.inl 12)) (bR (hR h5 x10 21) fun x11 => gd (ai h5 x11 0 v2) (lt (hI h5 x11 v2.toNatClampNeg) fun x12 => gd (hS h5 v0 = some (.inl 11)) (bd (f_m_nextOf v0 x9 x12 h5) fun r14 h13 => gd (ai h13 x6 0 v2) (lt (uI h13 x6 v2.toNatClampNeg r14) fun h15 => k4 (v0, v1, v2 + 1) h15))))))))))))))
set_option maxHeartbeats 4000000 in
set_option maxRecDepth 20000 in
theorem tb_m_lines_4 {G : GG} {k4 : (Nat × Int32 × Int32) → Hp → Option (Int32 × Hp)} (hk4 : ∀ s h, T G M_m_lines 4 cI 4 [(0, .ref s.1), (1, .int s.2.1), (2, .int s.2.2)] [] h (k4 s h)) (v0 : Nat) (v1 : Int32) (v2 : Int32) (h : Hp) : T G M_m_lines 4 cI 4 [(0, .ref v0), (1, .int v1), (2, .int v2)] [] h (b_m_lines_4 k4 v0 v1 v2 h) := by
  unfold b_m_lines_4
  refine q_iload_n (pc := 4) (dq D_m_lines_0_ok 4 rfl) rfl 2 rfl ?_
  refine q_aload_n (pc := 5) (dq D_m_lines_0_ok 5 rfl) rfl 0 rfl ?_
  refine q_getR (pc := 6) (dq D_m_lines_0_ok 6 rfl) fa_m_348 rfl (fun x1 => ?_)
  refine r_getI (pc := 9) (dq D_m_lines_0_ok 7 rfl) fa_m_300 rfl (fun x2 => ?_)
  refine q_ic_ge (pc := 12) 56 (dq D_m_lines_0_ok 8 rfl) rfl ?_ ?_
  · refine q_ic1 (pc := 56) (dq D_m_lines_0_ok 32 rfl) ?_
    refine r_nmI (fun y3 => ?_)
    refine q_istore_n (pc := 57) (ls' := [(2, .int y3), (0, .ref v0), (1, .int v1)]) (dq D_m_lines_0_ok 33 rfl) rfl rfl rfl ?_
    exact T.lsub [1, 2, 0] rfl (tl_m_lines_58 FU (v0, v1, y3) h)
  · refine q_aload_n (pc := 15) (dq D_m_lines_0_ok 9 rfl) rfl 0 rfl ?_
    refine q_getR (pc := 16) (dq D_m_lines_0_ok 10 rfl) fa_m_33 rfl (fun x4 => ?_)
    refine q_iload_n (pc := 19) (dq D_m_lines_0_ok 11 rfl) rfl 2 rfl ?_
    refine q_iload_n (pc := 20) (dq D_m_lines_0_ok 12 rfl) rfl 2 rfl ?_
    refine r_iast (pc := 21) (dq D_m_lines_0_ok 13 rfl) (fun h5 => ?_)
    refine q_aload_n (pc := 22) (dq D_m_lines_0_ok 14 rfl) rfl 0 rfl ?_
    refine q_getR (pc := 23) (dq D_m_lines_0_ok 15 rfl) fa_m_39 rfl (fun x6 => ?_)
    refine q_iload_n (pc := 26) (dq D_m_lines_0_ok 16 rfl) rfl 2 rfl ?_
    refine q_aload_n (pc := 27) (dq D_m_lines_0_ok 17 rfl) rfl 0 rfl ?_
    refine q_aload_n (pc := 28) (dq D_m_lines_0_ok 18 rfl) rfl 0 rfl ?_
    refine q_getR (pc := 29) (dq D_m_lines_0_ok 19 rfl) fa_m_348 rfl (fun x7 => ?_)
    refine q_getR (pc := 32) (dq D_m_lines_0_ok 20 rfl) fa_m_314 rfl (fun x8 => ?_)
    refine q_iload_n (pc := 35) (dq D_m_lines_0_ok 21 rfl) rfl 2 rfl ?_
    refine r_iald (pc := 36) (dq D_m_lines_0_ok 22 rfl) (fun x9 => ?_)
    refine q_aload_n (pc := 37) (dq D_m_lines_0_ok 23 rfl) rfl 0 rfl ?_
    refine q_getR (pc := 38) (dq D_m_lines_0_ok 24 rfl) fa_m_348 rfl (fun x10 => ?_)
    refine q_getR (pc := 41) (dq D_m_lines_0_ok 25 rfl) fa_m_314 rfl (fun x11 => ?_)
    refine q_iload_n (pc := 44) (dq D_m_lines_0_ok 26 rfl) rfl 2 rfl ?_
    refine r_iald (pc := 45) (dq D_m_lines_0_ok 27 rfl) (fun x12 => ?_)
    refine r_invI (Mc := M_m_nextOf) (pc := 46) (ci := 11) (rest := [.int v2, .ref x6]) 3 2 [.int x9, .int x12] (dq D_m_lines_0_ok 28 rfl) rfl rfl lc_m_nextOf lv_m_nextOf_ ml_m_406 rfl rfl rfl rfl (t_m_nextOf v0 x9 x12 h5) (fun r14 h13 => ?_)
    refine r_iast (pc := 49) (dq D_m_lines_0_ok 29 rfl) (fun h15 => ?_)
    refine q_iinc (pc := 50) (v := (1)) (ls' := [(2, .int (v2 + 1)), (0, .ref v0), (1, .int v1)]) (dq D_m_lines_0_ok 30 rfl) 2 rfl (by decide) rfl rfl ?_
    refine q_goto (pc := 53) 4 (dq D_m_lines_0_ok 31 rfl) rfl ?_
    exact T.lsub [1, 2, 0] rfl (hk4 (v0, v1, v2 + 1) h15)
noncomputable def l_m_lines_4 : Nat → (Nat × Int32 × Int32) → Hp → Option (Int32 × Hp) := lp (fun k4 s h => b_m_lines_4 k4 s.1 s.2.1 s.2.2 h)
set_option maxHeartbeats 4000000 in
set_option maxRecDepth 20000 in
theorem tl_m_lines_4 {G : GG} (n : Nat) (s : Nat × Int32 × Int32) (h : Hp) : T G M_m_lines 4 cI 4 [(0, .ref s.1), (1, .int s.2.1), (2, .int s.2.2)] [] h (l_m_lines_4 n s h) :=
  T.loop (lsOf := fun s => [(0, .ref s.1), (1, .int s.2.1), (2, .int s.2.2)]) (fun k4 hk4 s h => tb_m_lines_4 hk4 s.1 s.2.1 s.2.2 h) n s h
noncomputable def f_m_lines (v0 : Nat) (h : Hp) : Option (Int32 × Hp) := lt ((-1) : Int32) fun y1 => lt (0 : Int32) fun y2 => l_m_lines_4 FU (v0, y1, y2) h
set_option maxHeartbeats 4000000 in
set_option maxRecDepth 20000 in
theorem t_m_lines {G : GG} (v0 : Nat) (h : Hp) : Mt G M_m_lines 4 [.ref v0] cI h (f_m_lines v0 h) := by
  refine Mt.ofF (by decide +kernel) rfl (Rt.i rfl rfl) ?_
  show T G M_m_lines 4 cI 0 [(0, .ref v0)] [] h _
  unfold f_m_lines
  refine q_icm1 (pc := 0) (dq D_m_lines_0_ok 0 rfl) ?_
  refine r_nmI (fun y1 => ?_)
  refine q_istore_n (pc := 1) (ls' := [(1, .int y1), (0, .ref v0)]) (dq D_m_lines_0_ok 1 rfl) rfl rfl rfl ?_
  refine q_ic0 (pc := 2) (dq D_m_lines_0_ok 2 rfl) ?_
  refine r_nmI (fun y2 => ?_)
  refine q_istore_n (pc := 3) (ls' := [(2, .int y2), (1, .int y1), (0, .ref v0)]) (dq D_m_lines_0_ok 3 rfl) rfl rfl rfl ?_
  exact T.lsub [2, 1, 0] rfl (tl_m_lines_4 FU (v0, y1, y2) h)
noncomputable def f_m_lineWorth (v0 : Nat) (h : Hp) : Option (Int32 × Hp) := gd (hS h v0 = some (.inl 11)) (lt (uI h v0 0 0) fun h1 => gd (hS h1 v0 = some (.inl 11)) (if hR h1 v0 3 = none then (gd (hS h1 v0 = some (.inl 11)) (bd (f_m_refused v0 (1 : Int32) h1) fun r8 h7 => some (r8, h7))) else (gd (hS h1 v0 = some (.inl 11)) (bd (f_m_lines v0 h1) fun r4 h3 => gd (hS h3 v0 = some (.inl 11)) (bd (f_m_good v0 r4 h3) fun r6 h5 => some (r6, h5))))))
set_option maxHeartbeats 4000000 in
set_option maxRecDepth 20000 in
theorem t_m_lineWorth {G : GG} (v0 : Nat) (h : Hp) : Mt G M_m_lineWorth 5 [.ref v0] cI h (f_m_lineWorth v0 h) := by
  refine Mt.ofF (by decide +kernel) rfl (Rt.i rfl rfl) ?_
  show T G M_m_lineWorth 5 cI 0 [(0, .ref v0)] [] h _
  unfold f_m_lineWorth
  refine q_aload_n (pc := 0) (dq D_m_lineWorth_0_ok 0 rfl) rfl 0 rfl ?_
  refine q_ic0 (pc := 1) (dq D_m_lineWorth_0_ok 1 rfl) ?_
  refine r_putI (pc := 2) (dq D_m_lineWorth_0_ok 2 rfl) fp_m_54 rfl rfl (fun h1 => ?_)
  refine q_aload_n (pc := 5) (dq D_m_lineWorth_0_ok 3 rfl) rfl 0 rfl ?_
  refine q_getnn (pc := 6) 20 (dq D_m_lineWorth_0_ok 4 rfl) (dq D_m_lineWorth_0_ok 5 rfl) rfl fa_m_348 rfl ?_ ?_
  · refine q_aload_n (pc := 20) (dq D_m_lineWorth_0_ok 10 rfl) rfl 0 rfl ?_
    refine q_aload_n (pc := 21) (dq D_m_lineWorth_0_ok 11 rfl) rfl 0 rfl ?_
    refine r_invI (Mc := M_m_lines) (pc := 22) (ci := 11) (rest := [.ref v0]) 4 0 [] (dq D_m_lineWorth_0_ok 12 rfl) rfl rfl lc_m_lines lv_m_lines_ ml_m_437 rfl rfl rfl rfl (t_m_lines v0 h1) (fun r4 h3 => ?_)
    refine r_invI (Mc := M_m_good) (pc := 25) (ci := 11) (rest := []) 0 1 [.int r4] (dq D_m_lineWorth_0_ok 13 rfl) rfl rfl lc_m_good lv_m_good_ ml_m_64 rfl rfl rfl rfl (t_m_good v0 r4 h3) (fun r6 h5 => ?_)
    exact r_reti (pc := 28) (dq D_m_lineWorth_0_ok 14 rfl) rfl
  · refine q_aload_n (pc := 12) (dq D_m_lineWorth_0_ok 6 rfl) rfl 0 rfl ?_
    refine q_ic1 (pc := 13) (dq D_m_lineWorth_0_ok 7 rfl) ?_
    refine r_invI (Mc := M_m_refused) (pc := 14) (ci := 11) (rest := []) 0 1 [.int 1] (dq D_m_lineWorth_0_ok 8 rfl) rfl rfl lc_m_refused lv_m_refused_ ml_m_60 rfl rfl rfl rfl (t_m_refused v0 (1 : Int32) h1) (fun r8 h7 => ?_)
    refine q_goto (pc := 17) 28 (dq D_m_lineWorth_0_ok 9 rfl) rfl ?_
    exact r_reti (pc := 28) (dq D_m_lineWorth_0_ok 14 rfl) rfl
noncomputable def b_m_lineAt_27 (v0 : Nat) (h : Hp) : Option (Int32 × Hp) := gd (hS h v0 = some (.inl 11)) (bd (f_m_refused v0 (1 : Int32) h) fun r2 h1 => some (r2, h1))
set_option maxHeartbeats 4000000 in
set_option maxRecDepth 20000 in
theorem tb_m_lineAt_27 {G : GG} (v0 : Nat) (h : Hp) : T G M_m_lineAt 5 cI 27 [(0, .ref v0)] [] h (b_m_lineAt_27 v0 h) := by
  unfold b_m_lineAt_27
  refine q_aload_n (pc := 27) (dq D_m_lineAt_0_ok 13 rfl) rfl 0 rfl ?_
  refine q_ic1 (pc := 28) (dq D_m_lineAt_0_ok 14 rfl) ?_
  refine r_invI (Mc := M_m_refused) (pc := 29) (ci := 11) (rest := []) 0 1 [.int 1] (dq D_m_lineAt_0_ok 15 rfl) rfl rfl lc_m_refused lv_m_refused_ ml_m_60 rfl rfl rfl rfl (t_m_refused v0 (1 : Int32) h) (fun r2 h1 => ?_)
  exact r_reti (pc := 32) (dq D_m_lineAt_0_ok 16 rfl) rfl
noncomputable def f_m_lineAt (v0 : Nat) (v1 : Int32) (h : Hp) : Option (Int32 × Hp) := gd (hS h v0 = some (.inl 11)) (lt (uI h v0 0 0) fun h1 => gd (hS h1 v0 = some (.inl 11)) (if hR h1 v0 3 = none then (b_m_lineAt_27 v0 h1) else (if v1 < 0 then (b_m_lineAt_27 v0 h1) else (gd (hS h1 v0 = some (.inl 11)) (bR (hR h1 v0 3) fun x3 => gd (hS h1 x3 = some (.inl 12)) (lt (hI h1 x3 5) fun x4 => if v1 < x4 then (gd (hS h1 v0 = some (.inl 11)) (bd (f_m_lines v0 h1) fun r6 h5 => gd (hS h5 v0 = some (.inl 11)) (bR (hR h5 v0 25) fun x7 => gd (ai h5 x7 0 v1) (lt (hI h5 x7 v1.toNatClampNeg) fun x8 => gd (hS h5 v0 = some (.inl 11)) (bd (f_m_good v0 x8 h5) fun r10 h9 => some (r10, h9)))))) else (b_m_lineAt_27 v0 h1)))))))
set_option maxHeartbeats 4000000 in
set_option maxRecDepth 20000 in
theorem t_m_lineAt {G : GG} (v0 : Nat) (v1 : Int32) (h : Hp) : Mt G M_m_lineAt 5 [.ref v0, .int v1] cI h (f_m_lineAt v0 v1 h) := by
  refine Mt.ofF (by decide +kernel) rfl (Rt.i rfl rfl) ?_
  show T G M_m_lineAt 5 cI 0 [(0, .ref v0), (1, .int v1)] [] h _
  unfold f_m_lineAt
  refine q_aload_n (pc := 0) (dq D_m_lineAt_0_ok 0 rfl) rfl 0 rfl ?_
  refine q_ic0 (pc := 1) (dq D_m_lineAt_0_ok 1 rfl) ?_
  refine r_putI (pc := 2) (dq D_m_lineAt_0_ok 2 rfl) fp_m_54 rfl rfl (fun h1 => ?_)
  refine q_aload_n (pc := 5) (dq D_m_lineAt_0_ok 3 rfl) rfl 0 rfl ?_
  refine q_getnu (pc := 6) 27 (dq D_m_lineAt_0_ok 4 rfl) (dq D_m_lineAt_0_ok 5 rfl) rfl fa_m_348 rfl ?_ ?_
  · exact T.lsub [0] rfl (tb_m_lineAt_27 v0 h1)
  · refine q_iload_n (pc := 12) (dq D_m_lineAt_0_ok 6 rfl) rfl 1 rfl ?_
    refine p_if_lt (pc := 13) 27 (dq D_m_lineAt_0_ok 7 rfl) rfl ?_ ?_
    · exact T.lsub [0] rfl (tb_m_lineAt_27 v0 h1)
    · refine q_iload_n (pc := 16) (dq D_m_lineAt_0_ok 8 rfl) rfl 1 rfl ?_
      refine q_aload_n (pc := 17) (dq D_m_lineAt_0_ok 9 rfl) rfl 0 rfl ?_
      refine q_getR (pc := 18) (dq D_m_lineAt_0_ok 10 rfl) fa_m_348 rfl (fun x3 => ?_)
      refine r_getI (pc := 21) (dq D_m_lineAt_0_ok 11 rfl) fa_m_300 rfl (fun x4 => ?_)
      refine q_ic_lt (pc := 24) 33 (dq D_m_lineAt_0_ok 12 rfl) rfl ?_ ?_
      · refine q_aload_n (pc := 33) (dq D_m_lineAt_0_ok 17 rfl) rfl 0 rfl ?_
        refine r_invI (Mc := M_m_lines) (pc := 34) (ci := 11) (rest := []) 4 0 [] (dq D_m_lineAt_0_ok 18 rfl) rfl rfl lc_m_lines lv_m_lines_ ml_m_437 rfl rfl rfl rfl (t_m_lines v0 h1) (fun r6 h5 => ?_)
        refine q_pop (pc := 37) (dq D_m_lineAt_0_ok 19 rfl) rfl ?_
        refine q_aload_n (pc := 38) (dq D_m_lineAt_0_ok 20 rfl) rfl 0 rfl ?_
        refine q_aload_n (pc := 39) (dq D_m_lineAt_0_ok 21 rfl) rfl 0 rfl ?_
        refine q_getR (pc := 40) (dq D_m_lineAt_0_ok 22 rfl) fa_m_36 rfl (fun x7 => ?_)
        refine q_iload_n (pc := 43) (dq D_m_lineAt_0_ok 23 rfl) rfl 1 rfl ?_
        refine r_iald (pc := 44) (dq D_m_lineAt_0_ok 24 rfl) (fun x8 => ?_)
        refine r_invI (Mc := M_m_good) (pc := 45) (ci := 11) (rest := []) 0 1 [.int x8] (dq D_m_lineAt_0_ok 25 rfl) rfl rfl lc_m_good lv_m_good_ ml_m_64 rfl rfl rfl rfl (t_m_good v0 x8 h5) (fun r10 h9 => ?_)
        exact r_reti (pc := 48) (dq D_m_lineAt_0_ok 26 rfl) rfl
      · exact T.lsub [0] rfl (tb_m_lineAt_27 v0 h1)
noncomputable def f_m_inTime (v0 : Nat) (h : Hp) : Option (Int32 × Hp) := gd (hS h v0 = some (.inl 11)) (lt (uI h v0 0 0) fun h1 => gd (hS h1 v0 = some (.inl 11)) (if hR h1 v0 3 = none then (gd (hS h1 v0 = some (.inl 11)) (bd (f_m_refused v0 (1 : Int32) h1) fun r9 h8 => some (r9, h8))) else (gd (hS h1 v0 = some (.inl 11)) (bd (f_m_lines v0 h1) fun r4 h3 => gd (hS h3 v0 = some (.inl 11)) (lt (hI h3 v0 27) fun x5 => gd (hS h3 v0 = some (.inl 11)) (bd (f_m_good v0 x5 h3) fun r7 h6 => some (r7, h6)))))))
set_option maxHeartbeats 4000000 in
set_option maxRecDepth 20000 in
theorem t_m_inTime {G : GG} (v0 : Nat) (h : Hp) : Mt G M_m_inTime 5 [.ref v0] cI h (f_m_inTime v0 h) := by
  refine Mt.ofF (by decide +kernel) rfl (Rt.i rfl rfl) ?_
  show T G M_m_inTime 5 cI 0 [(0, .ref v0)] [] h _
  unfold f_m_inTime
  refine q_aload_n (pc := 0) (dq D_m_inTime_0_ok 0 rfl) rfl 0 rfl ?_
  refine q_ic0 (pc := 1) (dq D_m_inTime_0_ok 1 rfl) ?_
  refine r_putI (pc := 2) (dq D_m_inTime_0_ok 2 rfl) fp_m_54 rfl rfl (fun h1 => ?_)
  refine q_aload_n (pc := 5) (dq D_m_inTime_0_ok 3 rfl) rfl 0 rfl ?_
  refine q_getnn (pc := 6) 18 (dq D_m_inTime_0_ok 4 rfl) (dq D_m_inTime_0_ok 5 rfl) rfl fa_m_348 rfl ?_ ?_
  · refine q_aload_n (pc := 18) (dq D_m_inTime_0_ok 10 rfl) rfl 0 rfl ?_
    refine r_invI (Mc := M_m_lines) (pc := 19) (ci := 11) (rest := []) 4 0 [] (dq D_m_inTime_0_ok 11 rfl) rfl rfl lc_m_lines lv_m_lines_ ml_m_437 rfl rfl rfl rfl (t_m_lines v0 h1) (fun r4 h3 => ?_)
    refine q_pop (pc := 22) (dq D_m_inTime_0_ok 12 rfl) rfl ?_
    refine q_aload_n (pc := 23) (dq D_m_inTime_0_ok 13 rfl) rfl 0 rfl ?_
    refine q_aload_n (pc := 24) (dq D_m_inTime_0_ok 14 rfl) rfl 0 rfl ?_
    refine r_getI (pc := 25) (dq D_m_inTime_0_ok 15 rfl) fa_m_431 rfl (fun x5 => ?_)
    refine r_invI (Mc := M_m_good) (pc := 28) (ci := 11) (rest := []) 0 1 [.int x5] (dq D_m_inTime_0_ok 16 rfl) rfl rfl lc_m_good lv_m_good_ ml_m_64 rfl rfl rfl rfl (t_m_good v0 x5 h3) (fun r7 h6 => ?_)
    exact r_reti (pc := 31) (dq D_m_inTime_0_ok 17 rfl) rfl
  · refine q_aload_n (pc := 12) (dq D_m_inTime_0_ok 6 rfl) rfl 0 rfl ?_
    refine q_ic1 (pc := 13) (dq D_m_inTime_0_ok 7 rfl) ?_
    refine r_invI (Mc := M_m_refused) (pc := 14) (ci := 11) (rest := []) 0 1 [.int 1] (dq D_m_inTime_0_ok 8 rfl) rfl rfl lc_m_refused lv_m_refused_ ml_m_60 rfl rfl rfl rfl (t_m_refused v0 (1 : Int32) h1) (fun r9 h8 => ?_)
    exact r_reti (pc := 17) (dq D_m_inTime_0_ok 9 rfl) rfl
noncomputable def f_m_refusesSky (v0 : Nat) (v1 : Int32) (h : Hp) : Option (Int32 × Hp) := gd (hS h v0 = some (.inl 11)) (bd (f_m_isFeast v0 v1 h) fun r2 h1 => if r2 = 0 then (some (1, h1)) else (gd (hS h1 v0 = some (.inl 11)) (bR (hR h1 v0 3) fun x3 => gd (hS h1 x3 = some (.inl 12)) (bR (hR h1 x3 17) fun x4 => gd (ai h1 x4 0 v1) (lt (hI h1 x4 v1.toNatClampNeg) fun x5 => if x5 = 0 then (some (6, h1)) else (some (0, h1)))))))
set_option maxHeartbeats 4000000 in
set_option maxRecDepth 20000 in
theorem t_m_refusesSky {G : GG} (v0 : Nat) (v1 : Int32) (h : Hp) : Mt G M_m_refusesSky 1 [.ref v0, .int v1] cI h (f_m_refusesSky v0 v1 h) := by
  refine Mt.ofF (by decide +kernel) rfl (Rt.i rfl rfl) ?_
  show T G M_m_refusesSky 1 cI 0 [(0, .ref v0), (1, .int v1)] [] h _
  unfold f_m_refusesSky
  refine q_aload_n (pc := 0) (dq D_m_refusesSky_0_ok 0 rfl) rfl 0 rfl ?_
  refine q_iload_n (pc := 1) (dq D_m_refusesSky_0_ok 1 rfl) rfl 1 rfl ?_
  refine r_invI (Mc := M_m_isFeast) (pc := 2) (ci := 11) (rest := []) 0 1 [.int v1] (dq D_m_refusesSky_0_ok 2 rfl) rfl rfl lc_m_isFeast lv_m_isFeast_ ml_m_360 rfl rfl rfl rfl (t_m_isFeast v0 v1 h) (fun r2 h1 => ?_)
  refine p_if_ne (pc := 5) 12 (dq D_m_refusesSky_0_ok 3 rfl) rfl ?_ ?_
  · refine q_aload_n (pc := 12) (dq D_m_refusesSky_0_ok 6 rfl) rfl 0 rfl ?_
    refine q_getR (pc := 13) (dq D_m_refusesSky_0_ok 7 rfl) fa_m_348 rfl (fun x3 => ?_)
    refine q_getR (pc := 16) (dq D_m_refusesSky_0_ok 8 rfl) fa_m_317 rfl (fun x4 => ?_)
    refine q_iload_n (pc := 19) (dq D_m_refusesSky_0_ok 9 rfl) rfl 1 rfl ?_
    refine r_iald (pc := 20) (dq D_m_refusesSky_0_ok 10 rfl) (fun x5 => ?_)
    refine p_if_ne (pc := 21) 29 (dq D_m_refusesSky_0_ok 11 rfl) rfl ?_ ?_
    · refine q_ic0 (pc := 29) (dq D_m_refusesSky_0_ok 14 rfl) ?_
      exact r_reti (pc := 30) (dq D_m_refusesSky_0_ok 15 rfl) rfl
    · refine q_bipush (pc := 24) (v := 6) (dq D_m_refusesSky_0_ok 12 rfl) (by decide) ?_
      refine q_goto (pc := 26) 30 (dq D_m_refusesSky_0_ok 13 rfl) rfl ?_
      exact r_reti (pc := 30) (dq D_m_refusesSky_0_ok 15 rfl) rfl
  · refine q_ic1 (pc := 8) (dq D_m_refusesSky_0_ok 4 rfl) ?_
    refine q_goto (pc := 9) 30 (dq D_m_refusesSky_0_ok 5 rfl) rfl ?_
    exact r_reti (pc := 30) (dq D_m_refusesSky_0_ok 15 rfl) rfl
noncomputable def f_m_off (v0 : Nat) (v1 : Int32) (v2 : Int32) (h : Hp) : Option (Int32 × Hp) := gd (hS h v0 = some (.inl 11)) (bR (hR h v0 3) fun x1 => gd (hS h x1 = some (.inl 12)) (bR (hR h x1 18) fun x2 => gd (ai h x2 0 v1) (lt (hI h x2 v1.toNatClampNeg) fun x3 => if x3 < v2 then (gd (hS h v0 = some (.inl 11)) (bR (hR h v0 3) fun x4 => gd (hS h x4 = some (.inl 12)) (bR (hR h x4 18) fun x5 => gd (ai h x5 0 v1) (lt (hI h x5 v1.toNatClampNeg) fun x6 => gd (hS h v0 = some (.inl 11)) (bR (hR h v0 3) fun x7 => gd (hS h x7 = some (.inl 12)) (bR (hR h x7 17) fun x8 => gd (ai h x8 0 v1) (lt (hI h x8 v1.toNatClampNeg) fun x9 => gd (¬ x9 = 0) (lt (irm (v2 - x6) x9 : Int32) fun y10 => gd (hS h v0 = some (.inl 11)) (bR (hR h v0 3) fun x11 => gd (hS h x11 = some (.inl 12)) (bR (hR h x11 17) fun x12 => gd (ai h x12 0 v1) (lt (hI h x12 v1.toNatClampNeg) fun x13 => if (x13 - y10) ≤ y10 then (gd (hS h v0 = some (.inl 11)) (bR (hR h v0 3) fun x14 => gd (hS h x14 = some (.inl 12)) (bR (hR h x14 17) fun x15 => gd (ai h x15 0 v1) (lt (hI h x15 v1.toNatClampNeg) fun x16 => some (x16 - y10, h))))) else (some (y10, h))))))))))))) else (gd (hS h v0 = some (.inl 11)) (bR (hR h v0 3) fun x17 => gd (hS h x17 = some (.inl 12)) (bR (hR h x17 18) fun x18 => gd (ai h x18 0 v1) (lt (hI h x18 v1.toNatClampNeg) fun x19 => some (x19 - v2, h))))))))
set_option maxHeartbeats 4000000 in
set_option maxRecDepth 20000 in
theorem t_m_off {G : GG} (v0 : Nat) (v1 : Int32) (v2 : Int32) (h : Hp) : Mt G M_m_off 0 [.ref v0, .int v1, .int v2] cI h (f_m_off v0 v1 v2 h) := by
  refine Mt.ofF (by decide +kernel) rfl (Rt.i rfl rfl) ?_
  show T G M_m_off 0 cI 0 [(0, .ref v0), (1, .int v1), (2, .int v2)] [] h _
  unfold f_m_off
  refine q_iload_n (pc := 0) (dq D_m_off_0_ok 0 rfl) rfl 2 rfl ?_
  refine q_aload_n (pc := 1) (dq D_m_off_0_ok 1 rfl) rfl 0 rfl ?_
  refine q_getR (pc := 2) (dq D_m_off_0_ok 2 rfl) fa_m_348 rfl (fun x1 => ?_)
  refine q_getR (pc := 5) (dq D_m_off_0_ok 3 rfl) fa_m_323 rfl (fun x2 => ?_)
  refine q_iload_n (pc := 8) (dq D_m_off_0_ok 4 rfl) rfl 1 rfl ?_
  refine r_iald (pc := 9) (dq D_m_off_0_ok 5 rfl) (fun x3 => ?_)
  refine q_ic_gt (pc := 10) 25 (dq D_m_off_0_ok 6 rfl) rfl ?_ ?_
  · refine q_iload_n (pc := 25) (dq D_m_off_0_ok 15 rfl) rfl 2 rfl ?_
    refine q_aload_n (pc := 26) (dq D_m_off_0_ok 16 rfl) rfl 0 rfl ?_
    refine q_getR (pc := 27) (dq D_m_off_0_ok 17 rfl) fa_m_348 rfl (fun x4 => ?_)
    refine q_getR (pc := 30) (dq D_m_off_0_ok 18 rfl) fa_m_323 rfl (fun x5 => ?_)
    refine q_iload_n (pc := 33) (dq D_m_off_0_ok 19 rfl) rfl 1 rfl ?_
    refine r_iald (pc := 34) (dq D_m_off_0_ok 20 rfl) (fun x6 => ?_)
    refine q_isub (pc := 35) (dq D_m_off_0_ok 21 rfl) ?_
    refine q_aload_n (pc := 36) (dq D_m_off_0_ok 22 rfl) rfl 0 rfl ?_
    refine q_getR (pc := 37) (dq D_m_off_0_ok 23 rfl) fa_m_348 rfl (fun x7 => ?_)
    refine q_getR (pc := 40) (dq D_m_off_0_ok 24 rfl) fa_m_317 rfl (fun x8 => ?_)
    refine q_iload_n (pc := 43) (dq D_m_off_0_ok 25 rfl) rfl 1 rfl ?_
    refine r_iald (pc := 44) (dq D_m_off_0_ok 26 rfl) (fun x9 => ?_)
    refine q_irem (pc := 45) (dq D_m_off_0_ok 27 rfl) ?_
    refine r_nmI (fun y10 => ?_)
    refine q_istore_n (pc := 46) (ls' := [(3, .int y10), (0, .ref v0), (1, .int v1), (2, .int v2)]) (dq D_m_off_0_ok 28 rfl) rfl rfl rfl ?_
    refine q_iload_n (pc := 47) (dq D_m_off_0_ok 29 rfl) rfl 0 rfl ?_
    refine q_aload_n (pc := 48) (dq D_m_off_0_ok 30 rfl) rfl 1 rfl ?_
    refine q_getR (pc := 49) (dq D_m_off_0_ok 31 rfl) fa_m_348 rfl (fun x11 => ?_)
    refine q_getR (pc := 52) (dq D_m_off_0_ok 32 rfl) fa_m_317 rfl (fun x12 => ?_)
    refine q_iload_n (pc := 55) (dq D_m_off_0_ok 33 rfl) rfl 2 rfl ?_
    refine r_iald (pc := 56) (dq D_m_off_0_ok 34 rfl) (fun x13 => ?_)
    refine q_iload_n (pc := 57) (dq D_m_off_0_ok 35 rfl) rfl 0 rfl ?_
    refine q_isub (pc := 58) (dq D_m_off_0_ok 36 rfl) ?_
    refine q_ic_ge (pc := 59) 66 (dq D_m_off_0_ok 37 rfl) rfl ?_ ?_
    · refine q_aload_n (pc := 66) (dq D_m_off_0_ok 40 rfl) rfl 1 rfl ?_
      refine q_getR (pc := 67) (dq D_m_off_0_ok 41 rfl) fa_m_348 rfl (fun x14 => ?_)
      refine q_getR (pc := 70) (dq D_m_off_0_ok 42 rfl) fa_m_317 rfl (fun x15 => ?_)
      refine q_iload_n (pc := 73) (dq D_m_off_0_ok 43 rfl) rfl 2 rfl ?_
      refine r_iald (pc := 74) (dq D_m_off_0_ok 44 rfl) (fun x16 => ?_)
      refine q_iload_n (pc := 75) (dq D_m_off_0_ok 45 rfl) rfl 0 rfl ?_
      refine q_isub (pc := 76) (dq D_m_off_0_ok 46 rfl) ?_
      exact r_reti (pc := 77) (dq D_m_off_0_ok 47 rfl) rfl
    · refine q_iload_n (pc := 62) (dq D_m_off_0_ok 38 rfl) rfl 0 rfl ?_
      refine q_goto (pc := 63) 77 (dq D_m_off_0_ok 39 rfl) rfl ?_
      exact r_reti (pc := 77) (dq D_m_off_0_ok 47 rfl) rfl
  · refine q_aload_n (pc := 13) (dq D_m_off_0_ok 7 rfl) rfl 0 rfl ?_
    refine q_getR (pc := 14) (dq D_m_off_0_ok 8 rfl) fa_m_348 rfl (fun x17 => ?_)
    refine q_getR (pc := 17) (dq D_m_off_0_ok 9 rfl) fa_m_323 rfl (fun x18 => ?_)
    refine q_iload_n (pc := 20) (dq D_m_off_0_ok 10 rfl) rfl 1 rfl ?_
    refine r_iald (pc := 21) (dq D_m_off_0_ok 11 rfl) (fun x19 => ?_)
    refine q_iload_n (pc := 22) (dq D_m_off_0_ok 12 rfl) rfl 2 rfl ?_
    refine q_isub (pc := 23) (dq D_m_off_0_ok 13 rfl) ?_
    exact r_reti (pc := 24) (dq D_m_off_0_ok 14 rfl) rfl
noncomputable def b_m_agree_62 (k27 : (Nat × Int32 × Int32) → Hp → Option (Int32 × Hp)) (v0 : Nat) (v1 : Int32) (v3 : Int32) (h : Hp) : Option (Int32 × Hp) := gd (hS h v0 = some (.inl 11)) (bd (f_m_aTurn v0 h) fun r2 h1 => k27 (v0, v1, v3 + 1) h1)
set_option maxHeartbeats 4000000 in
set_option maxRecDepth 20000 in
theorem tb_m_agree_62 {G : GG} {k27 : (Nat × Int32 × Int32) → Hp → Option (Int32 × Hp)} (hk27 : ∀ s h, T G M_m_agree 3 cI 27 [(0, .ref s.1), (1, .int s.2.1), (3, .int s.2.2)] [] h (k27 s h)) (v0 : Nat) (v1 : Int32) (v3 : Int32) (h : Hp) : T G M_m_agree 3 cI 62 [(0, .ref v0), (1, .int v1), (3, .int v3)] [] h (b_m_agree_62 k27 v0 v1 v3 h) := by
  unfold b_m_agree_62
  refine q_aload_n (pc := 62) (dq D_m_agree_0_ok 36 rfl) rfl 0 rfl ?_
  refine r_invI (Mc := M_m_aTurn) (pc := 63) (ci := 11) (rest := []) 2 0 [] (dq D_m_agree_0_ok 37 rfl) rfl rfl lc_m_aTurn lv_m_aTurn_ ml_m_403 rfl rfl rfl rfl (t_m_aTurn v0 h) (fun r2 h1 => ?_)
  refine q_pop (pc := 66) (dq D_m_agree_0_ok 38 rfl) rfl ?_
  refine q_iinc (pc := 67) (v := (1)) (ls' := [(3, .int (v3 + 1)), (0, .ref v0), (1, .int v1)]) (dq D_m_agree_0_ok 39 rfl) 2 rfl (by decide) rfl rfl ?_
  refine q_goto (pc := 70) 27 (dq D_m_agree_0_ok 40 rfl) rfl ?_
  exact T.lsub [1, 2, 0] rfl (hk27 (v0, v1, v3 + 1) h1)
noncomputable def b_m_agree_27 (k27 : (Nat × Int32 × Int32) → Hp → Option (Int32 × Hp)) (v0 : Nat) (v1 : Int32) (v3 : Int32) (h : Hp) : Option (Int32 × Hp) := if 5000 < v3 then (gd (hS h v0 = some (.inl 11)) (bd (f_m_good v0 ((-2)) h) fun r2 h1 => some (r2, h1))) else (gd (hS h v0 = some (.inl 11)) (bd (f_m_isOn v0 v1 h) fun r4 h3 => if r4 = 0 then (b_m_agree_62 k27 v0 v1 v3 h3) else (gd (hS h3 v0 = some (.inl 11)) (bR (hR h3 v0 16) fun x5 => gd (ai h3 x5 0 5) (lt (hI h3 x5 (5 : Int32).toNatClampNeg) fun x6 => gd (hS h3 v0 = some (.inl 11)) (bd (f_m_off v0 v1 x6 h3) fun r8 h7 => if r8 = 0 then (gd (hS h7 v0 = some (.inl 11)) (bd (f_m_good v0 v3 h7) fun r10 h9 => some (r10, h9))) else (b_m_agree_62 k27 v0 v1 v3 h7)))))))
set_option maxHeartbeats 4000000 in
set_option maxRecDepth 20000 in
theorem tb_m_agree_27 {G : GG} {k27 : (Nat × Int32 × Int32) → Hp → Option (Int32 × Hp)} (hk27 : ∀ s h, T G M_m_agree 3 cI 27 [(0, .ref s.1), (1, .int s.2.1), (3, .int s.2.2)] [] h (k27 s h)) (v0 : Nat) (v1 : Int32) (v3 : Int32) (h : Hp) : T G M_m_agree 3 cI 27 [(0, .ref v0), (1, .int v1), (3, .int v3)] [] h (b_m_agree_27 k27 v0 v1 v3 h) := by
  unfold b_m_agree_27
  refine q_iload_n (pc := 27) (dq D_m_agree_0_ok 17 rfl) rfl 2 rfl ?_
  refine q_sipush (pc := 28) (v := 5000) (dq D_m_agree_0_ok 18 rfl) (by decide) ?_
  refine q_ic_gt (pc := 31) 73 (dq D_m_agree_0_ok 19 rfl) rfl ?_ ?_
  · refine q_aload_n (pc := 73) (dq D_m_agree_0_ok 41 rfl) rfl 0 rfl ?_
    refine q_bipush (pc := 74) (v := (-2)) (dq D_m_agree_0_ok 42 rfl) (by decide) ?_
    refine r_invI (Mc := M_m_good) (pc := 76) (ci := 11) (rest := []) 0 1 [.int ((-2))] (dq D_m_agree_0_ok 43 rfl) rfl rfl lc_m_good lv_m_good_ ml_m_64 rfl rfl rfl rfl (t_m_good v0 ((-2)) h) (fun r2 h1 => ?_)
    exact r_reti (pc := 79) (dq D_m_agree_0_ok 44 rfl) rfl
  · refine q_aload_n (pc := 34) (dq D_m_agree_0_ok 20 rfl) rfl 0 rfl ?_
    refine q_iload_n (pc := 35) (dq D_m_agree_0_ok 21 rfl) rfl 1 rfl ?_
    refine r_invI (Mc := M_m_isOn) (pc := 36) (ci := 11) (rest := []) 1 1 [.int v1] (dq D_m_agree_0_ok 22 rfl) rfl rfl lc_m_isOn lv_m_isOn_ ml_m_385 rfl rfl rfl rfl (t_m_isOn v0 v1 h) (fun r4 h3 => ?_)
    refine p_if_eq (pc := 39) 62 (dq D_m_agree_0_ok 23 rfl) rfl ?_ ?_
    · exact T.lsub [0, 1, 2] rfl (tb_m_agree_62 hk27 v0 v1 v3 h3)
    · refine q_aload_n (pc := 42) (dq D_m_agree_0_ok 24 rfl) rfl 0 rfl ?_
      refine q_iload_n (pc := 43) (dq D_m_agree_0_ok 25 rfl) rfl 1 rfl ?_
      refine q_aload_n (pc := 44) (dq D_m_agree_0_ok 26 rfl) rfl 0 rfl ?_
      refine q_getR (pc := 45) (dq D_m_agree_0_ok 27 rfl) fa_m_21 rfl (fun x5 => ?_)
      refine q_ic5 (pc := 48) (dq D_m_agree_0_ok 28 rfl) ?_
      refine r_iald (pc := 49) (dq D_m_agree_0_ok 29 rfl) (fun x6 => ?_)
      refine r_invI (Mc := M_m_off) (pc := 50) (ci := 11) (rest := []) 0 2 [.int v1, .int x6] (dq D_m_agree_0_ok 30 rfl) rfl rfl lc_m_off lv_m_off_ ml_m_443 rfl rfl rfl rfl (t_m_off v0 v1 x6 h3) (fun r8 h7 => ?_)
      refine p_if_ne (pc := 53) 62 (dq D_m_agree_0_ok 31 rfl) rfl ?_ ?_
      · exact T.lsub [0, 1, 2] rfl (tb_m_agree_62 hk27 v0 v1 v3 h7)
      · refine q_aload_n (pc := 56) (dq D_m_agree_0_ok 32 rfl) rfl 0 rfl ?_
        refine q_iload_n (pc := 57) (dq D_m_agree_0_ok 33 rfl) rfl 2 rfl ?_
        refine r_invI (Mc := M_m_good) (pc := 58) (ci := 11) (rest := []) 0 1 [.int v3] (dq D_m_agree_0_ok 34 rfl) rfl rfl lc_m_good lv_m_good_ ml_m_64 rfl rfl rfl rfl (t_m_good v0 v3 h7) (fun r10 h9 => ?_)
        exact r_reti (pc := 61) (dq D_m_agree_0_ok 35 rfl) rfl
noncomputable def l_m_agree_27 : Nat → (Nat × Int32 × Int32) → Hp → Option (Int32 × Hp) := lp (fun k27 s h => b_m_agree_27 k27 s.1 s.2.1 s.2.2 h)
set_option maxHeartbeats 4000000 in
set_option maxRecDepth 20000 in
theorem tl_m_agree_27 {G : GG} (n : Nat) (s : Nat × Int32 × Int32) (h : Hp) : T G M_m_agree 3 cI 27 [(0, .ref s.1), (1, .int s.2.1), (3, .int s.2.2)] [] h (l_m_agree_27 n s h) :=
  T.loop (lsOf := fun s => [(0, .ref s.1), (1, .int s.2.1), (3, .int s.2.2)]) (fun k27 hk27 s h => tb_m_agree_27 hk27 s.1 s.2.1 s.2.2 h) n s h
noncomputable def f_m_agree (v0 : Nat) (v1 : Int32) (h : Hp) : Option (Int32 × Hp) := gd (hS h v0 = some (.inl 11)) (lt (uI h v0 0 0) fun h1 => gd (hS h1 v0 = some (.inl 11)) (bd (f_m_refusesSky v0 v1 h1) fun r3 h2 => if r3 ≤ 0 then (gd (hS h2 v0 = some (.inl 11)) (bd (f_m_works v0 h2) fun _ h4 => lt (0 : Int32) fun y6 => l_m_agree_27 FU (v0, v1, y6) h4)) else (gd (hS h2 v0 = some (.inl 11)) (bd (f_m_refused v0 r3 h2) fun r8 h7 => some (r8, h7)))))
set_option maxHeartbeats 4000000 in
set_option maxRecDepth 20000 in
theorem t_m_agree {G : GG} (v0 : Nat) (v1 : Int32) (h : Hp) : Mt G M_m_agree 3 [.ref v0, .int v1] cI h (f_m_agree v0 v1 h) := by
  refine Mt.ofF (by decide +kernel) rfl (Rt.i rfl rfl) ?_
  show T G M_m_agree 3 cI 0 [(0, .ref v0), (1, .int v1)] [] h _
  unfold f_m_agree
  refine q_aload_n (pc := 0) (dq D_m_agree_0_ok 0 rfl) rfl 0 rfl ?_
  refine q_ic0 (pc := 1) (dq D_m_agree_0_ok 1 rfl) ?_
  refine r_putI (pc := 2) (dq D_m_agree_0_ok 2 rfl) fp_m_54 rfl rfl (fun h1 => ?_)
  refine q_aload_n (pc := 5) (dq D_m_agree_0_ok 3 rfl) rfl 0 rfl ?_
  refine q_iload_n (pc := 6) (dq D_m_agree_0_ok 4 rfl) rfl 1 rfl ?_
  refine r_invI (Mc := M_m_refusesSky) (pc := 7) (ci := 11) (rest := []) 1 1 [.int v1] (dq D_m_agree_0_ok 5 rfl) rfl rfl lc_m_refusesSky lv_m_refusesSky_ ml_m_440 rfl rfl rfl rfl (t_m_refusesSky v0 v1 h1) (fun r3 h2 => ?_)
  refine q_istore_n (pc := 10) (ls' := [(2, .int r3), (0, .ref v0), (1, .int v1)]) (dq D_m_agree_0_ok 6 rfl) rfl rfl rfl ?_
  refine q_iload_n (pc := 11) (dq D_m_agree_0_ok 7 rfl) rfl 0 rfl ?_
  refine p_if_le (pc := 12) 21 (dq D_m_agree_0_ok 8 rfl) rfl ?_ ?_
  · refine q_aload_n (pc := 21) (dq D_m_agree_0_ok 13 rfl) rfl 1 rfl ?_
    refine r_invU (Mc := M_m_works) (pc := 22) (ci := 11) (rest := []) 0 0 [] (dq D_m_agree_0_ok 14 rfl) rfl rfl lc_m_works lv_m_works_ ml_m_383 rfl rfl rfl rfl (t_m_works v0 h2) (fun _ h4 => ?_)
    refine q_ic0 (pc := 25) (dq D_m_agree_0_ok 15 rfl) ?_
    refine r_nmI (fun y6 => ?_)
    refine q_istore_n (pc := 26) (ls' := [(3, .int y6), (2, .int r3), (0, .ref v0), (1, .int v1)]) (dq D_m_agree_0_ok 16 rfl) rfl rfl rfl ?_
    exact T.lsub [2, 3, 0] rfl (tl_m_agree_27 FU (v0, v1, y6) h4)
  · refine q_aload_n (pc := 15) (dq D_m_agree_0_ok 9 rfl) rfl 1 rfl ?_
    refine q_iload_n (pc := 16) (dq D_m_agree_0_ok 10 rfl) rfl 0 rfl ?_
    refine r_invI (Mc := M_m_refused) (pc := 17) (ci := 11) (rest := []) 0 1 [.int r3] (dq D_m_agree_0_ok 11 rfl) rfl rfl lc_m_refused lv_m_refused_ ml_m_60 rfl rfl rfl rfl (t_m_refused v0 r3 h2) (fun r8 h7 => ?_)
    exact r_reti (pc := 20) (dq D_m_agree_0_ok 12 rfl) rfl
noncomputable def b_m_drift_53 (s0 : Int32) (s1 : Nat) (h : Hp) : Option (Int32 × Hp) := gd (hS h s1 = some (.inl 11)) (bd (f_m_good s1 s0 h) fun r2 h1 => some (r2, h1))
set_option maxHeartbeats 4000000 in
set_option maxRecDepth 20000 in
theorem tb_m_drift_53 {G : GG} (s0 : Int32) (s1 : Nat) (h : Hp) : T G M_m_drift 4 cI 53 [] [.int s0, .ref s1] h (b_m_drift_53 s0 s1 h) := by
  unfold b_m_drift_53
  refine r_invI (Mc := M_m_good) (pc := 53) (ci := 11) (rest := []) 0 1 [.int s0] (dq D_m_drift_0_ok 33 rfl) rfl rfl lc_m_good lv_m_good_ ml_m_64 rfl rfl rfl rfl (t_m_good s1 s0 h) (fun r2 h1 => ?_)
  exact r_reti (pc := 56) (dq D_m_drift_0_ok 34 rfl) rfl
noncomputable def f_m_drift (v0 : Nat) (v1 : Int32) (h : Hp) : Option (Int32 × Hp) := gd (hS h v0 = some (.inl 11)) (lt (uI h v0 0 0) fun h1 => gd (hS h1 v0 = some (.inl 11)) (bd (f_m_refusesSky v0 v1 h1) fun r3 h2 => if r3 ≤ 0 then (gd (hS h2 v0 = some (.inl 11)) (bd (f_m_nextOf v0 v1 v1 h2) fun r5 h4 => if r5 = ((-2)) then (b_m_drift_53 ((-2)) v0 h4) else (gd (hS h4 v0 = some (.inl 11)) (bR (hR h4 v0 15) fun x6 => gd (ai h4 x6 0 5) (lt (hI h4 x6 (5 : Int32).toNatClampNeg) fun x7 => gd (hS h4 v0 = some (.inl 11)) (bd (f_m_off v0 v1 (x7 + r5) h4) fun r9 h8 => b_m_drift_53 r9 v0 h8)))))) else (gd (hS h2 v0 = some (.inl 11)) (bd (f_m_refused v0 r3 h2) fun r11 h10 => some (r11, h10)))))
set_option maxHeartbeats 4000000 in
set_option maxRecDepth 20000 in
theorem t_m_drift {G : GG} (v0 : Nat) (v1 : Int32) (h : Hp) : Mt G M_m_drift 4 [.ref v0, .int v1] cI h (f_m_drift v0 v1 h) := by
  refine Mt.ofF (by decide +kernel) rfl (Rt.i rfl rfl) ?_
  show T G M_m_drift 4 cI 0 [(0, .ref v0), (1, .int v1)] [] h _
  unfold f_m_drift
  refine q_aload_n (pc := 0) (dq D_m_drift_0_ok 0 rfl) rfl 0 rfl ?_
  refine q_ic0 (pc := 1) (dq D_m_drift_0_ok 1 rfl) ?_
  refine r_putI (pc := 2) (dq D_m_drift_0_ok 2 rfl) fp_m_54 rfl rfl (fun h1 => ?_)
  refine q_aload_n (pc := 5) (dq D_m_drift_0_ok 3 rfl) rfl 0 rfl ?_
  refine q_iload_n (pc := 6) (dq D_m_drift_0_ok 4 rfl) rfl 1 rfl ?_
  refine r_invI (Mc := M_m_refusesSky) (pc := 7) (ci := 11) (rest := []) 1 1 [.int v1] (dq D_m_drift_0_ok 5 rfl) rfl rfl lc_m_refusesSky lv_m_refusesSky_ ml_m_440 rfl rfl rfl rfl (t_m_refusesSky v0 v1 h1) (fun r3 h2 => ?_)
  refine q_istore_n (pc := 10) (ls' := [(2, .int r3), (0, .ref v0), (1, .int v1)]) (dq D_m_drift_0_ok 6 rfl) rfl rfl rfl ?_
  refine q_iload_n (pc := 11) (dq D_m_drift_0_ok 7 rfl) rfl 0 rfl ?_
  refine p_if_le (pc := 12) 21 (dq D_m_drift_0_ok 8 rfl) rfl ?_ ?_
  · refine q_aload_n (pc := 21) (dq D_m_drift_0_ok 13 rfl) rfl 1 rfl ?_
    refine q_iload_n (pc := 22) (dq D_m_drift_0_ok 14 rfl) rfl 2 rfl ?_
    refine q_iload_n (pc := 23) (dq D_m_drift_0_ok 15 rfl) rfl 2 rfl ?_
    refine r_invI (Mc := M_m_nextOf) (pc := 24) (ci := 11) (rest := []) 3 2 [.int v1, .int v1] (dq D_m_drift_0_ok 16 rfl) rfl rfl lc_m_nextOf lv_m_nextOf_ ml_m_406 rfl rfl rfl rfl (t_m_nextOf v0 v1 v1 h2) (fun r5 h4 => ?_)
    refine q_istore_n (pc := 27) (ls' := [(3, .int r5), (2, .int r3), (0, .ref v0), (1, .int v1)]) (dq D_m_drift_0_ok 17 rfl) rfl rfl rfl ?_
    refine q_aload_n (pc := 28) (dq D_m_drift_0_ok 18 rfl) rfl 2 rfl ?_
    refine q_iload_n (pc := 29) (dq D_m_drift_0_ok 19 rfl) rfl 0 rfl ?_
    refine q_bipush (pc := 30) (v := (-2)) (dq D_m_drift_0_ok 20 rfl) (by decide) ?_
    refine q_ic_ne (pc := 32) 40 (dq D_m_drift_0_ok 21 rfl) rfl ?_ ?_
    · refine q_aload_n (pc := 40) (dq D_m_drift_0_ok 24 rfl) rfl 2 rfl ?_
      refine q_iload_n (pc := 41) (dq D_m_drift_0_ok 25 rfl) rfl 3 rfl ?_
      refine q_aload_n (pc := 42) (dq D_m_drift_0_ok 26 rfl) rfl 2 rfl ?_
      refine q_getR (pc := 43) (dq D_m_drift_0_ok 27 rfl) fa_m_17 rfl (fun x6 => ?_)
      refine q_ic5 (pc := 46) (dq D_m_drift_0_ok 28 rfl) ?_
      refine r_iald (pc := 47) (dq D_m_drift_0_ok 29 rfl) (fun x7 => ?_)
      refine q_iload_n (pc := 48) (dq D_m_drift_0_ok 30 rfl) rfl 0 rfl ?_
      refine q_iadd (pc := 49) (dq D_m_drift_0_ok 31 rfl) ?_
      refine r_invI (Mc := M_m_off) (pc := 50) (ci := 11) (rest := [.ref v0]) 0 2 [.int v1, .int (x7 + r5)] (dq D_m_drift_0_ok 32 rfl) rfl rfl lc_m_off lv_m_off_ ml_m_443 rfl rfl rfl rfl (t_m_off v0 v1 (x7 + r5) h4) (fun r9 h8 => ?_)
      exact T.lsub [] rfl (tb_m_drift_53 r9 v0 h8)
    · refine q_bipush (pc := 35) (v := (-2)) (dq D_m_drift_0_ok 22 rfl) (by decide) ?_
      refine q_goto (pc := 37) 53 (dq D_m_drift_0_ok 23 rfl) rfl ?_
      exact T.lsub [] rfl (tb_m_drift_53 ((-2)) v0 h4)
  · refine q_aload_n (pc := 15) (dq D_m_drift_0_ok 9 rfl) rfl 1 rfl ?_
    refine q_iload_n (pc := 16) (dq D_m_drift_0_ok 10 rfl) rfl 0 rfl ?_
    refine r_invI (Mc := M_m_refused) (pc := 17) (ci := 11) (rest := []) 0 1 [.int r3] (dq D_m_drift_0_ok 11 rfl) rfl rfl lc_m_refused lv_m_refused_ ml_m_60 rfl rfl rfl rfl (t_m_refused v0 r3 h2) (fun r11 h10 => ?_)
    exact r_reti (pc := 20) (dq D_m_drift_0_ok 12 rfl) rfl
noncomputable def b_m_replays_144 (k52 : (Nat × Int32 × Int64 × Int32 × Int32 × Int32) → Hp → Option (Unit × Hp)) (v0 : Nat) (v2 : Int32) (v3 : Int64) (v5 : Int32) (v7 : Int32) (s0 : Int32) (s1 : Int32) (h : Hp) : Option (Unit × Hp) := lt (s1 - s0 : Int32) fun y1 => k52 (v0, v2, v3, v5, y1, v7 + 1) h
set_option maxHeartbeats 4000000 in
set_option maxRecDepth 20000 in
theorem tb_m_replays_144 {G : GG} {k52 : (Nat × Int32 × Int64 × Int32 × Int32 × Int32) → Hp → Option (Unit × Hp)} (hk52 : ∀ s h, T G M_m_replays 1 cU 52 [(0, .ref s.1), (2, .int s.2.1), (3, .long s.2.2.1), (5, .int s.2.2.2.1), (6, .int s.2.2.2.2.1), (7, .int s.2.2.2.2.2)] [] h (k52 s h)) (v0 : Nat) (v2 : Int32) (v3 : Int64) (v5 : Int32) (v7 : Int32) (s0 : Int32) (s1 : Int32) (h : Hp) : T G M_m_replays 1 cU 144 [(0, .ref v0), (2, .int v2), (3, .long v3), (5, .int v5), (7, .int v7)] [.int s0, .int s1] h (b_m_replays_144 k52 v0 v2 v3 v5 v7 s0 s1 h) := by
  unfold b_m_replays_144
  refine q_isub (pc := 144) (dq D_m_replays_1_ok 19 rfl) ?_
  refine r_nmI (fun y1 => ?_)
  refine q_istore (pc := 145) (ls' := [(6, .int y1), (0, .ref v0), (2, .int v2), (3, .long v3), (5, .int v5), (7, .int v7)]) (dq D_m_replays_1_ok 20 rfl) rfl rfl ?_
  refine q_iinc (pc := 147) (v := (1)) (ls' := [(7, .int (v7 + 1)), (6, .int y1), (0, .ref v0), (2, .int v2), (3, .long v3), (5, .int v5)]) (dq D_m_replays_1_ok 21 rfl) 5 rfl (by decide) rfl rfl ?_
  refine q_goto (pc := 150) 52 (dq D_m_replays_1_ok 22 rfl) rfl ?_
  exact T.lsub [2, 3, 4, 5, 1, 0] rfl (hk52 (v0, v2, v3, v5, y1, v7 + 1) h)
noncomputable def b_m_replays_132 (k52 : (Nat × Int32 × Int64 × Int32 × Int32 × Int32) → Hp → Option (Unit × Hp)) (v0 : Nat) (v2 : Int32) (v3 : Int64) (v5 : Int32) (v6 : Int32) (v7 : Int32) (h : Hp) : Option (Unit × Hp) := if v6 ≤ 0 then (b_m_replays_144 k52 v0 v2 v3 v5 v7 0 v6 h) else (b_m_replays_144 k52 v0 v2 v3 v5 v7 1 v6 h)
set_option maxHeartbeats 4000000 in
set_option maxRecDepth 20000 in
theorem tb_m_replays_132 {G : GG} {k52 : (Nat × Int32 × Int64 × Int32 × Int32 × Int32) → Hp → Option (Unit × Hp)} (hk52 : ∀ s h, T G M_m_replays 1 cU 52 [(0, .ref s.1), (2, .int s.2.1), (3, .long s.2.2.1), (5, .int s.2.2.2.1), (6, .int s.2.2.2.2.1), (7, .int s.2.2.2.2.2)] [] h (k52 s h)) (v0 : Nat) (v2 : Int32) (v3 : Int64) (v5 : Int32) (v6 : Int32) (v7 : Int32) (h : Hp) : T G M_m_replays 1 cU 132 [(0, .ref v0), (2, .int v2), (3, .long v3), (5, .int v5), (6, .int v6), (7, .int v7)] [] h (b_m_replays_132 k52 v0 v2 v3 v5 v6 v7 h) := by
  unfold b_m_replays_132
  refine q_iload (pc := 132) (dq D_m_replays_1_ok 13 rfl) 4 rfl ?_
  refine q_iload (pc := 134) (dq D_m_replays_1_ok 14 rfl) 4 rfl ?_
  refine p_if_le (pc := 136) 143 (dq D_m_replays_1_ok 15 rfl) rfl ?_ ?_
  · refine q_ic0 (pc := 143) (dq D_m_replays_1_ok 18 rfl) ?_
    exact T.lsub [0, 1, 2, 3, 5] rfl (tb_m_replays_144 hk52 v0 v2 v3 v5 v7 0 v6 h)
  · refine q_ic1 (pc := 139) (dq D_m_replays_1_ok 16 rfl) ?_
    refine q_goto (pc := 140) 144 (dq D_m_replays_1_ok 17 rfl) rfl ?_
    exact T.lsub [0, 1, 2, 3, 5] rfl (tb_m_replays_144 hk52 v0 v2 v3 v5 v7 1 v6 h)
noncomputable def b_m_replays_131 (k52 : (Nat × Int32 × Int64 × Int32 × Int32 × Int32) → Hp → Option (Unit × Hp)) (v0 : Nat) (v2 : Int32) (v3 : Int64) (v5 : Int32) (v6 : Int32) (v7 : Int32) (s0 : Int32) (s1 : Int32) (s2 : Nat) (h : Hp) : Option (Unit × Hp) := gd (ai h s2 0 s1) (lt (uI h s2 s1.toNatClampNeg s0) fun h1 => b_m_replays_132 k52 v0 v2 v3 v5 v6 v7 h1)
set_option maxHeartbeats 4000000 in
set_option maxRecDepth 20000 in
theorem tb_m_replays_131 {G : GG} {k52 : (Nat × Int32 × Int64 × Int32 × Int32 × Int32) → Hp → Option (Unit × Hp)} (hk52 : ∀ s h, T G M_m_replays 1 cU 52 [(0, .ref s.1), (2, .int s.2.1), (3, .long s.2.2.1), (5, .int s.2.2.2.1), (6, .int s.2.2.2.2.1), (7, .int s.2.2.2.2.2)] [] h (k52 s h)) (v0 : Nat) (v2 : Int32) (v3 : Int64) (v5 : Int32) (v6 : Int32) (v7 : Int32) (s0 : Int32) (s1 : Int32) (s2 : Nat) (h : Hp) : T G M_m_replays 1 cU 131 [(0, .ref v0), (2, .int v2), (3, .long v3), (5, .int v5), (6, .int v6), (7, .int v7)] [.int s0, .int s1, .ref s2] h (b_m_replays_131 k52 v0 v2 v3 v5 v6 v7 s0 s1 s2 h) := by
  unfold b_m_replays_131
  refine r_iast (pc := 131) (dq D_m_replays_1_ok 12 rfl) (fun h1 => ?_)
  exact T.lsub [0, 1, 2, 3, 4, 5] rfl (tb_m_replays_132 hk52 v0 v2 v3 v5 v6 v7 h1)
noncomputable def b_m_replays_52 (k52 : (Nat × Int32 × Int64 × Int32 × Int32 × Int32) → Hp → Option (Unit × Hp)) (v0 : Nat) (v2 : Int32) (v3 : Int64) (v5 : Int32) (v6 : Int32) (v7 : Int32) (h : Hp) : Option (Unit × Hp) := if 99 < v7 then (some ((), h)) else (gd (hS h v0 = some (.inl 11)) (bR (hR h v0 28) fun x1 => gd (ai h x1 0 v7) (lt (uI h x1 v7.toNatClampNeg 0) fun h2 => gd (hS h2 v0 = some (.inl 11)) (bd (f_m_isGoing v0 v2 (v7 - 1) v6 h2) fun r4 h3 => if r4 = 0 then (b_m_replays_132 k52 v0 v2 v3 v5 v6 v7 h3) else (gd (hS h3 v0 = some (.inl 11)) (bR (hR h3 v0 3) fun x5 => gd (hS h3 x5 = some (.inl 12)) (bR (hR h3 x5 11) fun x6 => gd (ai h3 x6 0 v2) (lt (hI h3 x6 v2.toNatClampNeg) fun x7 => gd (hS h3 v0 = some (.inl 11)) (bR (hR h3 v0 3) fun x8 => gd (hS h3 x8 = some (.inl 12)) (bR (hR h3 x8 12) fun x9 => gd (ai h3 x9 0 v2) (lt (hI h3 x9 v2.toNatClampNeg) fun x10 => gd (hS h3 v0 = some (.inl 11)) (bd (f_m_way v0 v2 x10 h3) fun r12 h11 => gd (hS h11 v0 = some (.inl 11)) (bd (f_m_goes v0 x7 v3 v5 r12 h11) fun r14 h13 => gd (hS h13 v0 = some (.inl 11)) (bR (hR h13 v0 28) fun x15 => gd (hS h13 v0 = some (.inl 11)) (lt (hI h13 v0 21) fun x16 => if x16 = 0 then (b_m_replays_131 k52 v0 v2 v3 r14 v6 v7 0 v7 x15 h13) else (b_m_replays_131 k52 v0 v2 v3 r14 v6 v7 1 v7 x15 h13))))))))))))))))
set_option maxHeartbeats 4000000 in
set_option maxRecDepth 20000 in
theorem tb_m_replays_52 {G : GG} {k52 : (Nat × Int32 × Int64 × Int32 × Int32 × Int32) → Hp → Option (Unit × Hp)} (hk52 : ∀ s h, T G M_m_replays 1 cU 52 [(0, .ref s.1), (2, .int s.2.1), (3, .long s.2.2.1), (5, .int s.2.2.2.1), (6, .int s.2.2.2.2.1), (7, .int s.2.2.2.2.2)] [] h (k52 s h)) (v0 : Nat) (v2 : Int32) (v3 : Int64) (v5 : Int32) (v6 : Int32) (v7 : Int32) (h : Hp) : T G M_m_replays 1 cU 52 [(0, .ref v0), (2, .int v2), (3, .long v3), (5, .int v5), (6, .int v6), (7, .int v7)] [] h (b_m_replays_52 k52 v0 v2 v3 v5 v6 v7 h) := by
  unfold b_m_replays_52
  refine q_iload (pc := 52) (dq D_m_replays_0_ok 29 rfl) 5 rfl ?_
  refine q_bipush (pc := 54) (v := 99) (dq D_m_replays_0_ok 30 rfl) (by decide) ?_
  refine q_ic_gt (pc := 56) 153 (dq D_m_replays_0_ok 31 rfl) rfl ?_ ?_
  · exact r_retu (pc := 153) (dq D_m_replays_1_ok 23 rfl) rfl
  · refine q_aload_n (pc := 59) (dq D_m_replays_0_ok 32 rfl) rfl 0 rfl ?_
    refine q_getR (pc := 60) (dq D_m_replays_0_ok 33 rfl) fa_m_42 rfl (fun x1 => ?_)
    refine q_iload (pc := 63) (dq D_m_replays_0_ok 34 rfl) 5 rfl ?_
    refine q_ic0 (pc := 65) (dq D_m_replays_0_ok 35 rfl) ?_
    refine r_iast (pc := 66) (dq D_m_replays_0_ok 36 rfl) (fun h2 => ?_)
    refine q_aload_n (pc := 67) (dq D_m_replays_0_ok 37 rfl) rfl 0 rfl ?_
    refine q_iload_n (pc := 68) (dq D_m_replays_0_ok 38 rfl) rfl 1 rfl ?_
    refine q_iload (pc := 69) (dq D_m_replays_0_ok 39 rfl) 5 rfl ?_
    refine q_ic1 (pc := 71) (dq D_m_replays_0_ok 40 rfl) ?_
    refine q_isub (pc := 72) (dq D_m_replays_0_ok 41 rfl) ?_
    refine q_iload (pc := 73) (dq D_m_replays_0_ok 42 rfl) 4 rfl ?_
    refine r_invI (Mc := M_m_isGoing) (pc := 75) (ci := 11) (rest := []) 0 3 [.int v2, .int (v7 - 1), .int v6] (dq D_m_replays_0_ok 43 rfl) rfl rfl lc_m_isGoing lv_m_isGoing_ ml_m_377 rfl rfl rfl rfl (t_m_isGoing v0 v2 (v7 - 1) v6 h2) (fun r4 h3 => ?_)
    refine p_if_eq (pc := 78) 132 (dq D_m_replays_0_ok 44 rfl) rfl ?_ ?_
    · exact T.lsub [0, 1, 2, 3, 4, 5] rfl (tb_m_replays_132 hk52 v0 v2 v3 v5 v6 v7 h3)
    · refine q_aload_n (pc := 81) (dq D_m_replays_0_ok 45 rfl) rfl 0 rfl ?_
      refine q_aload_n (pc := 82) (dq D_m_replays_0_ok 46 rfl) rfl 0 rfl ?_
      refine q_getR (pc := 83) (dq D_m_replays_0_ok 47 rfl) fa_m_348 rfl (fun x5 => ?_)
      refine q_getR (pc := 86) (dq D_m_replays_0_ok 48 rfl) fa_m_269 rfl (fun x6 => ?_)
      refine q_iload_n (pc := 89) (dq D_m_replays_0_ok 49 rfl) rfl 1 rfl ?_
      refine r_iald (pc := 90) (dq D_m_replays_0_ok 50 rfl) (fun x7 => ?_)
      refine q_lload_n (pc := 91) (dq D_m_replays_0_ok 51 rfl) rfl 2 rfl ?_
      refine q_iload (pc := 92) (dq D_m_replays_0_ok 52 rfl) 3 rfl ?_
      refine q_aload_n (pc := 94) (dq D_m_replays_0_ok 53 rfl) rfl 0 rfl ?_
      refine q_iload_n (pc := 95) (dq D_m_replays_0_ok 54 rfl) rfl 1 rfl ?_
      refine q_aload_n (pc := 96) (dq D_m_replays_0_ok 55 rfl) rfl 0 rfl ?_
      refine q_getR (pc := 97) (dq D_m_replays_0_ok 56 rfl) fa_m_348 rfl (fun x8 => ?_)
      refine q_getR (pc := 100) (dq D_m_replays_0_ok 57 rfl) fa_m_271 rfl (fun x9 => ?_)
      refine q_iload_n (pc := 103) (dq D_m_replays_0_ok 58 rfl) rfl 1 rfl ?_
      refine r_iald (pc := 104) (dq D_m_replays_0_ok 59 rfl) (fun x10 => ?_)
      refine r_invI (Mc := M_m_way) (pc := 105) (ci := 11) (rest := [.int v5, .long v3, .int x7, .ref v0]) 0 2 [.int v2, .int x10] (dq D_m_replays_1_ok 0 rfl) rfl rfl lc_m_way lv_m_way_ ml_m_367 rfl rfl rfl rfl (t_m_way v0 v2 x10 h3) (fun r12 h11 => ?_)
      refine r_invI (Mc := M_m_goes) (pc := 108) (ci := 11) (rest := []) 0 4 [.int x7, .long v3, .int v5, .int r12] (dq D_m_replays_1_ok 1 rfl) rfl rfl lc_m_goes lv_m_goes_ ml_m_370 rfl rfl rfl rfl (t_m_goes v0 x7 v3 v5 r12 h11) (fun r14 h13 => ?_)
      refine q_istore (pc := 111) (ls' := [(5, .int r14), (0, .ref v0), (2, .int v2), (3, .long v3), (6, .int v6), (7, .int v7)]) (dq D_m_replays_1_ok 2 rfl) rfl rfl ?_
      refine q_aload_n (pc := 113) (dq D_m_replays_1_ok 3 rfl) rfl 1 rfl ?_
      refine q_getR (pc := 114) (dq D_m_replays_1_ok 4 rfl) fa_m_42 rfl (fun x15 => ?_)
      refine q_iload (pc := 117) (dq D_m_replays_1_ok 5 rfl) 5 rfl ?_
      refine q_aload_n (pc := 119) (dq D_m_replays_1_ok 6 rfl) rfl 1 rfl ?_
      refine r_getI (pc := 120) (dq D_m_replays_1_ok 7 rfl) fa_m_363 rfl (fun x16 => ?_)
      refine p_if_eq (pc := 123) 130 (dq D_m_replays_1_ok 8 rfl) rfl ?_ ?_
      · refine q_ic0 (pc := 130) (dq D_m_replays_1_ok 11 rfl) ?_
        exact T.lsub [1, 2, 3, 0, 4, 5] rfl (tb_m_replays_131 hk52 v0 v2 v3 r14 v6 v7 0 v7 x15 h13)
      · refine q_ic1 (pc := 126) (dq D_m_replays_1_ok 9 rfl) ?_
        refine q_goto (pc := 127) 131 (dq D_m_replays_1_ok 10 rfl) rfl ?_
        exact T.lsub [1, 2, 3, 0, 4, 5] rfl (tb_m_replays_131 hk52 v0 v2 v3 r14 v6 v7 1 v7 x15 h13)
noncomputable def l_m_replays_52 : Nat → (Nat × Int32 × Int64 × Int32 × Int32 × Int32) → Hp → Option (Unit × Hp) := lp (fun k52 s h => b_m_replays_52 k52 s.1 s.2.1 s.2.2.1 s.2.2.2.1 s.2.2.2.2.1 s.2.2.2.2.2 h)
set_option maxHeartbeats 4000000 in
set_option maxRecDepth 20000 in
theorem tl_m_replays_52 {G : GG} (n : Nat) (s : Nat × Int32 × Int64 × Int32 × Int32 × Int32) (h : Hp) : T G M_m_replays 1 cU 52 [(0, .ref s.1), (2, .int s.2.1), (3, .long s.2.2.1), (5, .int s.2.2.2.1), (6, .int s.2.2.2.2.1), (7, .int s.2.2.2.2.2)] [] h (l_m_replays_52 n s h) :=
  T.loop (lsOf := fun s => [(0, .ref s.1), (2, .int s.2.1), (3, .long s.2.2.1), (5, .int s.2.2.2.1), (6, .int s.2.2.2.2.1), (7, .int s.2.2.2.2.2)]) (fun k52 hk52 s h => tb_m_replays_52 hk52 s.1 s.2.1 s.2.2.1 s.2.2.2.1 s.2.2.2.2.1 s.2.2.2.2.2 h) n s h
noncomputable def b_m_replays_28 (v0 : Nat) (v2 : Int32) (s0 : Int64) (h : Hp) : Option (Unit × Hp) := gd (hS h v0 = some (.inl 11)) (bR (hR h v0 3) fun x1 => gd (hS h x1 = some (.inl 12)) (bR (hR h x1 13) fun x2 => gd (ai h x2 0 v2) (lt (hI h x2 v2.toNatClampNeg) fun x3 => gd (hS h v0 = some (.inl 11)) (bR (hR h v0 3) fun x4 => gd (hS h x4 = some (.inl 12)) (lt (hI h x4 0) fun x5 => lt (1 : Int32) fun y6 => l_m_replays_52 FU (v0, v2, s0, x3, x5, y6) h)))))
set_option maxHeartbeats 4000000 in
set_option maxRecDepth 20000 in
theorem tb_m_replays_28 {G : GG} (v0 : Nat) (v2 : Int32) (s0 : Int64) (h : Hp) : T G M_m_replays 1 cU 28 [(0, .ref v0), (2, .int v2)] [.long s0] h (b_m_replays_28 v0 v2 s0 h) := by
  unfold b_m_replays_28
  refine q_lstore_n (pc := 28) (ls' := [(3, .long s0), (0, .ref v0), (2, .int v2)]) (dq D_m_replays_0_ok 16 rfl) rfl rfl rfl ?_
  refine q_aload_n (pc := 29) (dq D_m_replays_0_ok 17 rfl) rfl 1 rfl ?_
  refine q_getR (pc := 30) (dq D_m_replays_0_ok 18 rfl) fa_m_348 rfl (fun x1 => ?_)
  refine q_getR (pc := 33) (dq D_m_replays_0_ok 19 rfl) fa_m_273 rfl (fun x2 => ?_)
  refine q_iload_n (pc := 36) (dq D_m_replays_0_ok 20 rfl) rfl 2 rfl ?_
  refine r_iald (pc := 37) (dq D_m_replays_0_ok 21 rfl) (fun x3 => ?_)
  refine q_istore (pc := 38) (ls' := [(5, .int x3), (3, .long s0), (0, .ref v0), (2, .int v2)]) (dq D_m_replays_0_ok 22 rfl) rfl rfl ?_
  refine q_aload_n (pc := 40) (dq D_m_replays_0_ok 23 rfl) rfl 2 rfl ?_
  refine q_getR (pc := 41) (dq D_m_replays_0_ok 24 rfl) fa_m_348 rfl (fun x4 => ?_)
  refine r_getI (pc := 44) (dq D_m_replays_0_ok 25 rfl) fa_m_170 rfl (fun x5 => ?_)
  refine q_istore (pc := 47) (ls' := [(6, .int x5), (5, .int x3), (3, .long s0), (0, .ref v0), (2, .int v2)]) (dq D_m_replays_0_ok 26 rfl) rfl rfl ?_
  refine q_ic1 (pc := 49) (dq D_m_replays_0_ok 27 rfl) ?_
  refine r_nmI (fun y6 => ?_)
  refine q_istore (pc := 50) (ls' := [(7, .int y6), (6, .int x5), (5, .int x3), (3, .long s0), (0, .ref v0), (2, .int v2)]) (dq D_m_replays_0_ok 28 rfl) rfl rfl ?_
  exact T.lsub [4, 5, 3, 2, 1, 0] rfl (tl_m_replays_52 FU (v0, v2, s0, x3, x5, y6) h)
noncomputable def f_m_replays (v0 : Nat) (v1 : Int32) (h : Hp) : Option (Unit × Hp) := gd (hS h v0 = some (.inl 11)) (bR (hR h v0 3) fun x1 => gd (hS h x1 = some (.inl 12)) (lt (hI h x1 7) fun x2 => gd (hS h v0 = some (.inl 11)) (bR (hR h v0 3) fun x3 => gd (hS h x3 = some (.inl 12)) (bR (hR h x3 11) fun x4 => gd (ai h x4 0 x2) (lt (hI h x4 x2.toNatClampNeg) fun x5 => if v1 = x5 then (b_m_replays_28 v0 x2 0 h) else (b_m_replays_28 v0 x2 ((1 : Int64) <<< (v1.toInt64 &&& 63)) h))))))
set_option maxHeartbeats 4000000 in
set_option maxRecDepth 20000 in
theorem t_m_replays {G : GG} (v0 : Nat) (v1 : Int32) (h : Hp) : Mt G M_m_replays 1 [.ref v0, .int v1] cU h (f_m_replays v0 v1 h) := by
  refine Mt.ofF (by decide +kernel) rfl (Rt.v rfl rfl) ?_
  show T G M_m_replays 1 cU 0 [(0, .ref v0), (1, .int v1)] [] h _
  unfold f_m_replays
  refine q_aload_n (pc := 0) (dq D_m_replays_0_ok 0 rfl) rfl 0 rfl ?_
  refine q_getR (pc := 1) (dq D_m_replays_0_ok 1 rfl) fa_m_348 rfl (fun x1 => ?_)
  refine r_getI (pc := 4) (dq D_m_replays_0_ok 2 rfl) fa_m_278 rfl (fun x2 => ?_)
  refine q_istore_n (pc := 7) (ls' := [(2, .int x2), (0, .ref v0), (1, .int v1)]) (dq D_m_replays_0_ok 3 rfl) rfl rfl rfl ?_
  refine q_iload_n (pc := 8) (dq D_m_replays_0_ok 4 rfl) rfl 2 rfl ?_
  refine q_aload_n (pc := 9) (dq D_m_replays_0_ok 5 rfl) rfl 1 rfl ?_
  refine q_getR (pc := 10) (dq D_m_replays_0_ok 6 rfl) fa_m_348 rfl (fun x3 => ?_)
  refine q_getR (pc := 13) (dq D_m_replays_0_ok 7 rfl) fa_m_269 rfl (fun x4 => ?_)
  refine q_iload_n (pc := 16) (dq D_m_replays_0_ok 8 rfl) rfl 0 rfl ?_
  refine r_iald (pc := 17) (dq D_m_replays_0_ok 9 rfl) (fun x5 => ?_)
  refine q_ic_ne (pc := 18) 25 (dq D_m_replays_0_ok 10 rfl) rfl ?_ ?_
  · refine q_lconst (pc := 25) (v := 1) (dq D_m_replays_0_ok 13 rfl) (by decide) ?_
    refine q_iload_n (pc := 26) (dq D_m_replays_0_ok 14 rfl) rfl 2 rfl ?_
    refine q_lshl (pc := 27) (dq D_m_replays_0_ok 15 rfl) ?_
    exact T.lsub [1, 0] rfl (tb_m_replays_28 v0 x2 ((1 : Int64) <<< (v1.toInt64 &&& 63)) h)
  · refine q_lconst (pc := 21) (v := 0) (dq D_m_replays_0_ok 11 rfl) (by decide) ?_
    refine q_goto (pc := 22) 28 (dq D_m_replays_0_ok 12 rfl) rfl ?_
    exact T.lsub [1, 0] rfl (tb_m_replays_28 v0 x2 0 h)
