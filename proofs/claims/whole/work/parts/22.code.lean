noncomputable def b_R_readSeen_95 (k62 : (Nat × Int32 × Int32 × Int32) → Hp → Option (Unit × Hp)) (v0 : Nat) (v1 : Int32) (v2 : Int32) (v3 : Int32) (h : Hp) : Option (Unit × Hp) := k62 (v0, v1, v2, v3 + 1) h
set_option maxHeartbeats 4000000 in
set_option maxRecDepth 20000 in
theorem tb_R_readSeen_95 {G : GG} {k62 : (Nat × Int32 × Int32 × Int32) → Hp → Option (Unit × Hp)} (hk62 : ∀ s h, T G M_R_readSeen 3 cU 62 [(0, .ref s.1), (1, .int s.2.1), (2, .int s.2.2.1), (3, .int s.2.2.2)] [] h (k62 s h)) (v0 : Nat) (v1 : Int32) (v2 : Int32) (v3 : Int32) (h : Hp) : T G M_R_readSeen 3 cU 95 [(0, .ref v0), (1, .int v1), (2, .int v2), (3, .int v3)] [] h (b_R_readSeen_95 k62 v0 v1 v2 v3 h) := by
  unfold b_R_readSeen_95
  refine q_iinc (pc := 95) (v := (1)) (ls' := [(3, .int (v3 + 1)), (0, .ref v0), (1, .int v1), (2, .int v2)]) (dq D_R_readSeen_0_ok 49 rfl) 3 rfl (by decide) rfl rfl ?_
  refine q_goto (pc := 98) 62 (dq D_R_readSeen_0_ok 50 rfl) rfl ?_
  exact T.lsub [1, 2, 3, 0] rfl (hk62 (v0, v1, v2, v3 + 1) h)
noncomputable def b_R_readSeen_62 (k62 : (Nat × Int32 × Int32 × Int32) → Hp → Option (Unit × Hp)) (v0 : Nat) (v1 : Int32) (v2 : Int32) (v3 : Int32) (h : Hp) : Option (Unit × Hp) := gd (hS h v0 = some (.inl 1)) (bR (hR h v0 2) fun x1 => gd (hS h x1 = some (.inl 2)) (lt (hI h x1 13) fun x2 => if x2 ≤ v3 then (gd (hS h v0 = some (.inl 1)) (lt (hI h v0 4) fun x3 => if x3 = 0 then (gd (hS h v0 = some (.inl 1)) (bR (hR h v0 2) fun x4 => gd (hS h x4 = some (.inl 2)) (bR (hR h x4 14) fun x5 => gd (hS h v0 = some (.inl 1)) (bR (hR h v0 2) fun x6 => gd (hS h x6 = some (.inl 2)) (lt (hI h x6 13) fun x7 => gd (ai h x5 0 x7) (lt (uI h x5 x7.toNatClampNeg v2) fun h8 => gd (hS h8 v0 = some (.inl 1)) (bR (hR h8 v0 2) fun x9 => gd (hS h8 x9 = some (.inl 2)) (bR (hR h8 x9 15) fun x10 => gd (hS h8 v0 = some (.inl 1)) (bR (hR h8 v0 2) fun x11 => gd (hS h8 x11 = some (.inl 2)) (lt (hI h8 x11 13) fun x12 => gd (zb v1 ∧ ai h8 x10 3 x12) (lt (uI h8 x10 x12.toNatClampNeg v1) fun h13 => gd (hS h13 v0 = some (.inl 1)) (bR (hR h13 v0 2) fun x14 => gd (hS h13 x14 = some (.inl 2)) (lt (hI h13 x14 13) fun x15 => gd (hS h13 x14 = some (.inl 2)) (lt (uI h13 x14 13 (x15 + 1)) fun h16 => some ((), h16))))))))))))))) else (some ((), h)))) else (gd (hS h v0 = some (.inl 1)) (bR (hR h v0 2) fun x17 => gd (hS h x17 = some (.inl 2)) (bR (hR h x17 14) fun x18 => gd (ai h x18 0 v3) (lt (hI h x18 v3.toNatClampNeg) fun x19 => if x19 = v2 then (gd (hS h v0 = some (.inl 1)) (lt (hI h v0 11) fun x20 => gd (hS h v0 = some (.inl 1)) (bd (f_R_fail v0 (3 : Int32) x20 h) fun _ h21 => b_R_readSeen_95 k62 v0 v1 v2 v3 h21))) else (b_R_readSeen_95 k62 v0 v1 v2 v3 h)))))))
set_option maxHeartbeats 4000000 in
set_option maxRecDepth 20000 in
theorem tb_R_readSeen_62 {G : GG} {k62 : (Nat × Int32 × Int32 × Int32) → Hp → Option (Unit × Hp)} (hk62 : ∀ s h, T G M_R_readSeen 3 cU 62 [(0, .ref s.1), (1, .int s.2.1), (2, .int s.2.2.1), (3, .int s.2.2.2)] [] h (k62 s h)) (v0 : Nat) (v1 : Int32) (v2 : Int32) (v3 : Int32) (h : Hp) : T G M_R_readSeen 3 cU 62 [(0, .ref v0), (1, .int v1), (2, .int v2), (3, .int v3)] [] h (b_R_readSeen_62 k62 v0 v1 v2 v3 h) := by
  unfold b_R_readSeen_62
  refine q_iload_n (pc := 62) (dq D_R_readSeen_0_ok 32 rfl) rfl 3 rfl ?_
  refine q_aload_n (pc := 63) (dq D_R_readSeen_0_ok 33 rfl) rfl 0 rfl ?_
  refine q_getR (pc := 64) (dq D_R_readSeen_0_ok 34 rfl) fa_R_36 rfl (fun x1 => ?_)
  refine r_getI (pc := 67) (dq D_R_readSeen_0_ok 35 rfl) fa_R_243 rfl (fun x2 => ?_)
  refine q_ic_ge (pc := 70) 101 (dq D_R_readSeen_0_ok 36 rfl) rfl ?_ ?_
  · refine q_aload_n (pc := 101) (dq D_R_readSeen_0_ok 51 rfl) rfl 0 rfl ?_
    refine r_getI (pc := 102) (dq D_R_readSeen_0_ok 52 rfl) fa_R_49 rfl (fun x3 => ?_)
    refine p_if_ne (pc := 105) 153 (dq D_R_readSeen_0_ok 53 rfl) rfl ?_ ?_
    · exact r_retu (pc := 153) (dq D_R_readSeen_1_ok 17 rfl) rfl
    · refine q_aload_n (pc := 108) (dq D_R_readSeen_0_ok 54 rfl) rfl 0 rfl ?_
      refine q_getR (pc := 109) (dq D_R_readSeen_0_ok 55 rfl) fa_R_36 rfl (fun x4 => ?_)
      refine q_getR (pc := 112) (dq D_R_readSeen_0_ok 56 rfl) fa_R_248 rfl (fun x5 => ?_)
      refine q_aload_n (pc := 115) (dq D_R_readSeen_0_ok 57 rfl) rfl 0 rfl ?_
      refine q_getR (pc := 116) (dq D_R_readSeen_0_ok 58 rfl) fa_R_36 rfl (fun x6 => ?_)
      refine r_getI (pc := 119) (dq D_R_readSeen_0_ok 59 rfl) fa_R_243 rfl (fun x7 => ?_)
      refine q_iload_n (pc := 122) (dq D_R_readSeen_1_ok 0 rfl) rfl 2 rfl ?_
      refine r_iast (pc := 123) (dq D_R_readSeen_1_ok 1 rfl) (fun h8 => ?_)
      refine q_aload_n (pc := 124) (dq D_R_readSeen_1_ok 2 rfl) rfl 0 rfl ?_
      refine q_getR (pc := 125) (dq D_R_readSeen_1_ok 3 rfl) fa_R_36 rfl (fun x9 => ?_)
      refine q_getR (pc := 128) (dq D_R_readSeen_1_ok 4 rfl) fa_R_251 rfl (fun x10 => ?_)
      refine q_aload_n (pc := 131) (dq D_R_readSeen_1_ok 5 rfl) rfl 0 rfl ?_
      refine q_getR (pc := 132) (dq D_R_readSeen_1_ok 6 rfl) fa_R_36 rfl (fun x11 => ?_)
      refine r_getI (pc := 135) (dq D_R_readSeen_1_ok 7 rfl) fa_R_243 rfl (fun x12 => ?_)
      refine q_iload_n (pc := 138) (dq D_R_readSeen_1_ok 8 rfl) rfl 1 rfl ?_
      refine r_zast (pc := 139) (dq D_R_readSeen_1_ok 9 rfl) (fun h13 => ?_)
      refine q_aload_n (pc := 140) (dq D_R_readSeen_1_ok 10 rfl) rfl 0 rfl ?_
      refine q_getR (pc := 141) (dq D_R_readSeen_1_ok 11 rfl) fa_R_36 rfl (fun x14 => ?_)
      refine q_dup (pc := 144) (dq D_R_readSeen_1_ok 12 rfl) rfl ?_
      refine r_getI (pc := 145) (dq D_R_readSeen_1_ok 13 rfl) fa_R_243 rfl (fun x15 => ?_)
      refine q_ic1 (pc := 148) (dq D_R_readSeen_1_ok 14 rfl) ?_
      refine q_iadd (pc := 149) (dq D_R_readSeen_1_ok 15 rfl) ?_
      refine r_putI (pc := 150) (dq D_R_readSeen_1_ok 16 rfl) fp_R_243 rfl rfl (fun h16 => ?_)
      exact r_retu (pc := 153) (dq D_R_readSeen_1_ok 17 rfl) rfl
  · refine q_aload_n (pc := 73) (dq D_R_readSeen_0_ok 37 rfl) rfl 0 rfl ?_
    refine q_getR (pc := 74) (dq D_R_readSeen_0_ok 38 rfl) fa_R_36 rfl (fun x17 => ?_)
    refine q_getR (pc := 77) (dq D_R_readSeen_0_ok 39 rfl) fa_R_248 rfl (fun x18 => ?_)
    refine q_iload_n (pc := 80) (dq D_R_readSeen_0_ok 40 rfl) rfl 3 rfl ?_
    refine r_iald (pc := 81) (dq D_R_readSeen_0_ok 41 rfl) (fun x19 => ?_)
    refine q_iload_n (pc := 82) (dq D_R_readSeen_0_ok 42 rfl) rfl 2 rfl ?_
    refine q_ic_ne (pc := 83) 95 (dq D_R_readSeen_0_ok 43 rfl) rfl ?_ ?_
    · exact T.lsub [0, 1, 2, 3] rfl (tb_R_readSeen_95 hk62 v0 v1 v2 v3 h)
    · refine q_aload_n (pc := 86) (dq D_R_readSeen_0_ok 44 rfl) rfl 0 rfl ?_
      refine q_ic3 (pc := 87) (dq D_R_readSeen_0_ok 45 rfl) ?_
      refine q_aload_n (pc := 88) (dq D_R_readSeen_0_ok 46 rfl) rfl 0 rfl ?_
      refine r_getI (pc := 89) (dq D_R_readSeen_0_ok 47 rfl) fa_R_184 rfl (fun x20 => ?_)
      refine r_invU (Mc := M_R_fail) (pc := 92) (ci := 1) (rest := []) 0 2 [.int 3, .int x20] (dq D_R_readSeen_0_ok 48 rfl) rfl rfl lc_R_fail lv_R_fail_ ml_R_73 rfl rfl rfl rfl (t_R_fail v0 (3 : Int32) x20 h) (fun _ h21 => ?_)
      exact T.lsub [0, 1, 2, 3] rfl (tb_R_readSeen_95 hk62 v0 v1 v2 v3 h21)
noncomputable def l_R_readSeen_62 : Nat → (Nat × Int32 × Int32 × Int32) → Hp → Option (Unit × Hp) := lp (fun k62 s h => b_R_readSeen_62 k62 s.1 s.2.1 s.2.2.1 s.2.2.2 h)
set_option maxHeartbeats 4000000 in
set_option maxRecDepth 20000 in
theorem tl_R_readSeen_62 {G : GG} (n : Nat) (s : Nat × Int32 × Int32 × Int32) (h : Hp) : T G M_R_readSeen 3 cU 62 [(0, .ref s.1), (1, .int s.2.1), (2, .int s.2.2.1), (3, .int s.2.2.2)] [] h (l_R_readSeen_62 n s h) :=
  T.loop (lsOf := fun s => [(0, .ref s.1), (1, .int s.2.1), (2, .int s.2.2.1), (3, .int s.2.2.2)]) (fun k62 hk62 s h => tb_R_readSeen_62 hk62 s.1 s.2.1 s.2.2.1 s.2.2.2 h) n s h
noncomputable def b_R_readSeen_41 (v0 : Nat) (v1 : Int32) (h : Hp) : Option (Unit × Hp) := gd (hS h v0 = some (.inl 1)) (bd (f_R_step v0 h) fun _ h1 => gd (hS h1 v0 = some (.inl 1)) (bd (f_R_pass v0 (6578553 : Int64) h1) fun _ h3 => gd (hS h3 v0 = some (.inl 1)) (bd (f_R_readWhole v0 (1 : Int32) (99 : Int32) h3) fun r6 h5 => lt (0 : Int32) fun y7 => l_R_readSeen_62 FU (v0, v1, r6, y7) h5)))
set_option maxHeartbeats 4000000 in
set_option maxRecDepth 20000 in
theorem tb_R_readSeen_41 {G : GG} (v0 : Nat) (v1 : Int32) (h : Hp) : T G M_R_readSeen 3 cU 41 [(0, .ref v0), (1, .int v1)] [] h (b_R_readSeen_41 v0 v1 h) := by
  unfold b_R_readSeen_41
  refine q_aload_n (pc := 41) (dq D_R_readSeen_0_ok 20 rfl) rfl 0 rfl ?_
  refine r_invU (Mc := M_R_step) (pc := 42) (ci := 1) (rest := []) 1 0 [] (dq D_R_readSeen_0_ok 21 rfl) rfl rfl lc_R_step lv_R_step_ ml_R_61 rfl rfl rfl rfl (t_R_step v0 h) (fun _ h1 => ?_)
  refine q_aload_n (pc := 45) (dq D_R_readSeen_0_ok 22 rfl) rfl 0 rfl ?_
  refine q_ldc2 (pc := 46) (v := 6578553) (dq D_R_readSeen_0_ok 23 rfl) lk_R_246 ?_
  refine r_invU (Mc := M_R_pass) (pc := 49) (ci := 1) (rest := []) 2 1 [.long 6578553] (dq D_R_readSeen_0_ok 24 rfl) rfl rfl lc_R_pass lv_R_pass_ ml_R_129 rfl rfl rfl rfl (t_R_pass v0 (6578553 : Int64) h1) (fun _ h3 => ?_)
  refine q_aload_n (pc := 52) (dq D_R_readSeen_0_ok 25 rfl) rfl 0 rfl ?_
  refine q_ic1 (pc := 53) (dq D_R_readSeen_0_ok 26 rfl) ?_
  refine q_bipush (pc := 54) (v := 99) (dq D_R_readSeen_0_ok 27 rfl) (by decide) ?_
  refine r_invI (Mc := M_R_readWhole) (pc := 56) (ci := 1) (rest := []) 2 2 [.int 1, .int 99] (dq D_R_readSeen_0_ok 28 rfl) rfl rfl lc_R_readWhole lv_R_readWhole_ ml_R_135 rfl rfl rfl rfl (t_R_readWhole v0 (1 : Int32) (99 : Int32) h3) (fun r6 h5 => ?_)
  refine q_istore_n (pc := 59) (ls' := [(2, .int r6), (0, .ref v0), (1, .int v1)]) (dq D_R_readSeen_0_ok 29 rfl) rfl rfl rfl ?_
  refine q_ic0 (pc := 60) (dq D_R_readSeen_0_ok 30 rfl) ?_
  refine r_nmI (fun y7 => ?_)
  refine q_istore_n (pc := 61) (ls' := [(3, .int y7), (2, .int r6), (0, .ref v0), (1, .int v1)]) (dq D_R_readSeen_0_ok 31 rfl) rfl rfl rfl ?_
  exact T.lsub [2, 3, 1, 0] rfl (tl_R_readSeen_62 FU (v0, v1, r6, y7) h5)
noncomputable def b_R_readSeen_20 (v0 : Nat) (v1 : Int32) (h : Hp) : Option (Unit × Hp) := gd (hS h v0 = some (.inl 1)) (bR (hR h v0 2) fun x1 => gd (hS h x1 = some (.inl 2)) (lt (hI h x1 12) fun x2 => if x2 = ((-1)) then (gd (hS h v0 = some (.inl 1)) (lt (hI h v0 6) fun x3 => gd (hS h v0 = some (.inl 1)) (bd (f_R_fail v0 (6 : Int32) x3 h) fun _ h4 => b_R_readSeen_41 v0 v1 h4))) else (b_R_readSeen_41 v0 v1 h)))
set_option maxHeartbeats 4000000 in
set_option maxRecDepth 20000 in
theorem tb_R_readSeen_20 {G : GG} (v0 : Nat) (v1 : Int32) (h : Hp) : T G M_R_readSeen 3 cU 20 [(0, .ref v0), (1, .int v1)] [] h (b_R_readSeen_20 v0 v1 h) := by
  unfold b_R_readSeen_20
  refine q_aload_n (pc := 20) (dq D_R_readSeen_0_ok 10 rfl) rfl 0 rfl ?_
  refine q_getR (pc := 21) (dq D_R_readSeen_0_ok 11 rfl) fa_R_36 rfl (fun x1 => ?_)
  refine r_getI (pc := 24) (dq D_R_readSeen_0_ok 12 rfl) fa_R_187 rfl (fun x2 => ?_)
  refine q_icm1 (pc := 27) (dq D_R_readSeen_0_ok 13 rfl) ?_
  refine q_ic_ne (pc := 28) 41 (dq D_R_readSeen_0_ok 14 rfl) rfl ?_ ?_
  · exact T.lsub [0, 1] rfl (tb_R_readSeen_41 v0 v1 h)
  · refine q_aload_n (pc := 31) (dq D_R_readSeen_0_ok 15 rfl) rfl 0 rfl ?_
    refine q_bipush (pc := 32) (v := 6) (dq D_R_readSeen_0_ok 16 rfl) (by decide) ?_
    refine q_aload_n (pc := 34) (dq D_R_readSeen_0_ok 17 rfl) rfl 0 rfl ?_
    refine r_getI (pc := 35) (dq D_R_readSeen_0_ok 18 rfl) fa_R_70 rfl (fun x3 => ?_)
    refine r_invU (Mc := M_R_fail) (pc := 38) (ci := 1) (rest := []) 0 2 [.int 6, .int x3] (dq D_R_readSeen_0_ok 19 rfl) rfl rfl lc_R_fail lv_R_fail_ ml_R_73 rfl rfl rfl rfl (t_R_fail v0 (6 : Int32) x3 h) (fun _ h4 => ?_)
    exact T.lsub [0, 1] rfl (tb_R_readSeen_41 v0 v1 h4)
noncomputable def f_R_readSeen (v0 : Nat) (v1 : Int32) (h : Hp) : Option (Unit × Hp) := gd (hS h v0 = some (.inl 1)) (bR (hR h v0 2) fun x1 => gd (hS h x1 = some (.inl 2)) (lt (hI h x1 13) fun x2 => if x2 < 5 then (b_R_readSeen_20 v0 v1 h) else (gd (hS h v0 = some (.inl 1)) (lt (hI h v0 6) fun x3 => gd (hS h v0 = some (.inl 1)) (bd (f_R_fail v0 (5 : Int32) x3 h) fun _ h4 => b_R_readSeen_20 v0 v1 h4)))))
set_option maxHeartbeats 4000000 in
set_option maxRecDepth 20000 in
theorem t_R_readSeen {G : GG} (v0 : Nat) (v1 : Int32) (h : Hp) : Mt G M_R_readSeen 3 [.ref v0, .int v1] cU h (f_R_readSeen v0 v1 h) := by
  refine Mt.ofF (by decide +kernel) rfl (Rt.v rfl rfl) ?_
  show T G M_R_readSeen 3 cU 0 [(0, .ref v0), (1, .int v1)] [] h _
  unfold f_R_readSeen
  refine q_aload_n (pc := 0) (dq D_R_readSeen_0_ok 0 rfl) rfl 0 rfl ?_
  refine q_getR (pc := 1) (dq D_R_readSeen_0_ok 1 rfl) fa_R_36 rfl (fun x1 => ?_)
  refine r_getI (pc := 4) (dq D_R_readSeen_0_ok 2 rfl) fa_R_243 rfl (fun x2 => ?_)
  refine q_ic5 (pc := 7) (dq D_R_readSeen_0_ok 3 rfl) ?_
  refine q_ic_lt (pc := 8) 20 (dq D_R_readSeen_0_ok 4 rfl) rfl ?_ ?_
  · exact T.lsub [0, 1] rfl (tb_R_readSeen_20 v0 v1 h)
  · refine q_aload_n (pc := 11) (dq D_R_readSeen_0_ok 5 rfl) rfl 0 rfl ?_
    refine q_ic5 (pc := 12) (dq D_R_readSeen_0_ok 6 rfl) ?_
    refine q_aload_n (pc := 13) (dq D_R_readSeen_0_ok 7 rfl) rfl 0 rfl ?_
    refine r_getI (pc := 14) (dq D_R_readSeen_0_ok 8 rfl) fa_R_70 rfl (fun x3 => ?_)
    refine r_invU (Mc := M_R_fail) (pc := 17) (ci := 1) (rest := []) 0 2 [.int 5, .int x3] (dq D_R_readSeen_0_ok 9 rfl) rfl rfl lc_R_fail lv_R_fail_ ml_R_73 rfl rfl rfl rfl (t_R_fail v0 (5 : Int32) x3 h) (fun _ h4 => ?_)
    exact T.lsub [0, 1] rfl (tb_R_readSeen_20 v0 v1 h4)
noncomputable def f_R_readLine (v0 : Nat) (h : Hp) : Option (Unit × Hp) := gd (hS h v0 = some (.inl 1)) (bd (f_R_isLineWord v0 h) fun r2 h1 => if r2 = 0 then (gd (hS h1 v0 = some (.inl 1)) (lt (hI h1 v0 6) fun x39 => gd (hS h1 v0 = some (.inl 1)) (bd (f_R_fail v0 (1 : Int32) x39 h1) fun _ h40 => some ((), h40)))) else (gd (hS h1 v0 = some (.inl 1)) (bd (f_R_is v0 (422825784179 : Int64) h1) fun r4 h3 => if r4 = 0 then (gd (hS h3 v0 = some (.inl 1)) (lt (hI h3 v0 3) fun x5 => if x5 = 0 then (gd (hS h3 v0 = some (.inl 1)) (lt (hI h3 v0 6) fun x34 => gd (hS h3 v0 = some (.inl 1)) (bd (f_R_fail v0 (6 : Int32) x34 h3) fun _ h35 => some ((), h35)))) else (gd (hS h3 v0 = some (.inl 1)) (bd (f_R_is v0 (512852583788 : Int64) h3) fun r7 h6 => if r7 = 0 then (gd (hS h6 v0 = some (.inl 1)) (bd (f_R_is v0 (1735356005 : Int64) h6) fun r9 h8 => if r9 = 0 then (gd (hS h8 v0 = some (.inl 1)) (bd (f_R_is v0 (439787549556 : Int64) h8) fun r11 h10 => if r11 = 0 then (gd (hS h10 v0 = some (.inl 1)) (bd (f_R_is v0 (2003792491 : Int64) h10) fun r13 h12 => if r13 = 0 then (gd (hS h12 v0 = some (.inl 1)) (bd (f_R_is v0 (7564153 : Int64) h12) fun r15 h14 => if r15 = 0 then (gd (hS h14 v0 = some (.inl 1)) (bd (f_R_is v0 (32498760989107060 : Int64) h14) fun r17 h16 => if r17 = 0 then (gd (hS h16 v0 = some (.inl 1)) (bd (f_R_is v0 (116983943882084 : Int64) h16) fun r19 h18 => gd (hS h18 v0 = some (.inl 1)) (bd (f_R_readSeen v0 r19 h18) fun _ h20 => some ((), h20)))) else (gd (hS h16 v0 = some (.inl 1)) (bd (f_R_readSuspect v0 h16) fun _ h22 => some ((), h22))))) else (gd (hS h14 v0 = some (.inl 1)) (bd (f_R_readSky v0 h14) fun _ h24 => some ((), h24))))) else (gd (hS h12 v0 = some (.inl 1)) (bd (f_R_readWork v0 h12) fun _ h26 => some ((), h26))))) else (gd (hS h10 v0 = some (.inl 1)) (bd (f_R_readFeast v0 h10) fun _ h28 => some ((), h28))))) else (gd (hS h8 v0 = some (.inl 1)) (bd (f_R_readGone v0 h8) fun _ h30 => some ((), h30))))) else (gd (hS h6 v0 = some (.inl 1)) (bd (f_R_readWheel v0 h6) fun _ h32 => some ((), h32))))))) else (gd (hS h3 v0 = some (.inl 1)) (bd (f_R_readBrass v0 h3) fun _ h37 => some ((), h37))))))
set_option maxHeartbeats 4000000 in
set_option maxRecDepth 20000 in
theorem t_R_readLine {G : GG} (v0 : Nat) (h : Hp) : Mt G M_R_readLine 5 [.ref v0] cU h (f_R_readLine v0 h) := by
  refine Mt.ofF (by decide +kernel) rfl (Rt.v rfl rfl) ?_
  show T G M_R_readLine 5 cU 0 [(0, .ref v0)] [] h _
  unfold f_R_readLine
  refine q_aload_n (pc := 0) (dq D_R_readLine_0_ok 0 rfl) rfl 0 rfl ?_
  refine r_invI (Mc := M_R_isLineWord) (pc := 1) (ci := 1) (rest := []) 0 0 [] (dq D_R_readLine_0_ok 1 rfl) rfl rfl lc_R_isLineWord lv_R_isLineWord_ ml_R_80 rfl rfl rfl rfl (t_R_isLineWord v0 h) (fun r2 h1 => ?_)
  refine p_if_ne (pc := 4) 19 (dq D_R_readLine_0_ok 2 rfl) rfl ?_ ?_
  · refine q_aload_n (pc := 19) (dq D_R_readLine_0_ok 9 rfl) rfl 0 rfl ?_
    refine q_ldc2 (pc := 20) (v := 422825784179) (dq D_R_readLine_0_ok 10 rfl) lk_R_84 ?_
    refine r_invI (Mc := M_R_is) (pc := 23) (ci := 1) (rest := []) 0 1 [.long 422825784179] (dq D_R_readLine_0_ok 11 rfl) rfl rfl lc_R_is lv_R_is_ ml_R_86 rfl rfl rfl rfl (t_R_is v0 (422825784179 : Int64) h1) (fun r4 h3 => ?_)
    refine p_if_eq (pc := 26) 36 (dq D_R_readLine_0_ok 12 rfl) rfl ?_ ?_
    · refine q_aload_n (pc := 36) (dq D_R_readLine_0_ok 16 rfl) rfl 0 rfl ?_
      refine r_getI (pc := 37) (dq D_R_readLine_0_ok 17 rfl) fa_R_45 rfl (fun x5 => ?_)
      refine p_if_ne (pc := 40) 56 (dq D_R_readLine_0_ok 18 rfl) rfl ?_ ?_
      · refine q_aload_n (pc := 56) (dq D_R_readLine_0_ok 25 rfl) rfl 0 rfl ?_
        refine q_ldc2 (pc := 57) (v := 512852583788) (dq D_R_readLine_0_ok 26 rfl) lk_R_93 ?_
        refine r_invI (Mc := M_R_is) (pc := 60) (ci := 1) (rest := []) 0 1 [.long 512852583788] (dq D_R_readLine_0_ok 27 rfl) rfl rfl lc_R_is lv_R_is_ ml_R_86 rfl rfl rfl rfl (t_R_is v0 (512852583788 : Int64) h3) (fun r7 h6 => ?_)
        refine p_if_eq (pc := 63) 73 (dq D_R_readLine_0_ok 28 rfl) rfl ?_ ?_
        · refine q_aload_n (pc := 73) (dq D_R_readLine_0_ok 32 rfl) rfl 0 rfl ?_
          refine q_ldc2 (pc := 74) (v := 1735356005) (dq D_R_readLine_0_ok 33 rfl) lk_R_98 ?_
          refine r_invI (Mc := M_R_is) (pc := 77) (ci := 1) (rest := []) 0 1 [.long 1735356005] (dq D_R_readLine_0_ok 34 rfl) rfl rfl lc_R_is lv_R_is_ ml_R_86 rfl rfl rfl rfl (t_R_is v0 (1735356005 : Int64) h6) (fun r9 h8 => ?_)
          refine p_if_eq (pc := 80) 90 (dq D_R_readLine_0_ok 35 rfl) rfl ?_ ?_
          · refine q_aload_n (pc := 90) (dq D_R_readLine_0_ok 39 rfl) rfl 0 rfl ?_
            refine q_ldc2 (pc := 91) (v := 439787549556) (dq D_R_readLine_0_ok 40 rfl) lk_R_103 ?_
            refine r_invI (Mc := M_R_is) (pc := 94) (ci := 1) (rest := []) 0 1 [.long 439787549556] (dq D_R_readLine_0_ok 41 rfl) rfl rfl lc_R_is lv_R_is_ ml_R_86 rfl rfl rfl rfl (t_R_is v0 (439787549556 : Int64) h8) (fun r11 h10 => ?_)
            refine p_if_eq (pc := 97) 107 (dq D_R_readLine_0_ok 42 rfl) rfl ?_ ?_
            · refine q_aload_n (pc := 107) (dq D_R_readLine_0_ok 46 rfl) rfl 0 rfl ?_
              refine q_ldc2 (pc := 108) (v := 2003792491) (dq D_R_readLine_0_ok 47 rfl) lk_R_108 ?_
              refine r_invI (Mc := M_R_is) (pc := 111) (ci := 1) (rest := []) 0 1 [.long 2003792491] (dq D_R_readLine_0_ok 48 rfl) rfl rfl lc_R_is lv_R_is_ ml_R_86 rfl rfl rfl rfl (t_R_is v0 (2003792491 : Int64) h10) (fun r13 h12 => ?_)
              refine p_if_eq (pc := 114) 124 (dq D_R_readLine_0_ok 49 rfl) rfl ?_ ?_
              · refine q_aload_n (pc := 124) (dq D_R_readLine_0_ok 53 rfl) rfl 0 rfl ?_
                refine q_ldc2 (pc := 125) (v := 7564153) (dq D_R_readLine_0_ok 54 rfl) lk_R_113 ?_
                refine r_invI (Mc := M_R_is) (pc := 128) (ci := 1) (rest := []) 0 1 [.long 7564153] (dq D_R_readLine_0_ok 55 rfl) rfl rfl lc_R_is lv_R_is_ ml_R_86 rfl rfl rfl rfl (t_R_is v0 (7564153 : Int64) h12) (fun r15 h14 => ?_)
                refine p_if_eq (pc := 131) 141 (dq D_R_readLine_0_ok 56 rfl) rfl ?_ ?_
                · refine q_aload_n (pc := 141) (dq D_R_readLine_1_ok 0 rfl) rfl 0 rfl ?_
                  refine q_ldc2 (pc := 142) (v := 32498760989107060) (dq D_R_readLine_1_ok 1 rfl) lk_R_118 ?_
                  refine r_invI (Mc := M_R_is) (pc := 145) (ci := 1) (rest := []) 0 1 [.long 32498760989107060] (dq D_R_readLine_1_ok 2 rfl) rfl rfl lc_R_is lv_R_is_ ml_R_86 rfl rfl rfl rfl (t_R_is v0 (32498760989107060 : Int64) h14) (fun r17 h16 => ?_)
                  refine p_if_eq (pc := 148) 158 (dq D_R_readLine_1_ok 3 rfl) rfl ?_ ?_
                  · refine q_aload_n (pc := 158) (dq D_R_readLine_1_ok 7 rfl) rfl 0 rfl ?_
                    refine q_aload_n (pc := 159) (dq D_R_readLine_1_ok 8 rfl) rfl 0 rfl ?_
                    refine q_ldc2 (pc := 160) (v := 116983943882084) (dq D_R_readLine_1_ok 9 rfl) lk_R_123 ?_
                    refine r_invI (Mc := M_R_is) (pc := 163) (ci := 1) (rest := [.ref v0]) 0 1 [.long 116983943882084] (dq D_R_readLine_1_ok 10 rfl) rfl rfl lc_R_is lv_R_is_ ml_R_86 rfl rfl rfl rfl (t_R_is v0 (116983943882084 : Int64) h16) (fun r19 h18 => ?_)
                    refine r_invU (Mc := M_R_readSeen) (pc := 166) (ci := 1) (rest := []) 3 1 [.int r19] (dq D_R_readLine_1_ok 11 rfl) rfl rfl lc_R_readSeen lv_R_readSeen_ ml_R_125 rfl rfl rfl rfl (t_R_readSeen v0 r19 h18) (fun _ h20 => ?_)
                    exact r_retu (pc := 169) (dq D_R_readLine_1_ok 12 rfl) rfl
                  · refine q_aload_n (pc := 151) (dq D_R_readLine_1_ok 4 rfl) rfl 0 rfl ?_
                    refine r_invU (Mc := M_R_readSuspect) (pc := 152) (ci := 1) (rest := []) 3 0 [] (dq D_R_readLine_1_ok 5 rfl) rfl rfl lc_R_readSuspect lv_R_readSuspect_ ml_R_120 rfl rfl rfl rfl (t_R_readSuspect v0 h16) (fun _ h22 => ?_)
                    refine q_goto (pc := 155) 169 (dq D_R_readLine_1_ok 6 rfl) rfl ?_
                    exact r_retu (pc := 169) (dq D_R_readLine_1_ok 12 rfl) rfl
                · refine q_aload_n (pc := 134) (dq D_R_readLine_0_ok 57 rfl) rfl 0 rfl ?_
                  refine r_invU (Mc := M_R_readSky) (pc := 135) (ci := 1) (rest := []) 3 0 [] (dq D_R_readLine_0_ok 58 rfl) rfl rfl lc_R_readSky lv_R_readSky_ ml_R_115 rfl rfl rfl rfl (t_R_readSky v0 h14) (fun _ h24 => ?_)
                  refine q_goto (pc := 138) 169 (dq D_R_readLine_0_ok 59 rfl) rfl ?_
                  exact r_retu (pc := 169) (dq D_R_readLine_1_ok 12 rfl) rfl
              · refine q_aload_n (pc := 117) (dq D_R_readLine_0_ok 50 rfl) rfl 0 rfl ?_
                refine r_invU (Mc := M_R_readWork) (pc := 118) (ci := 1) (rest := []) 3 0 [] (dq D_R_readLine_0_ok 51 rfl) rfl rfl lc_R_readWork lv_R_readWork_ ml_R_110 rfl rfl rfl rfl (t_R_readWork v0 h12) (fun _ h26 => ?_)
                refine q_goto (pc := 121) 169 (dq D_R_readLine_0_ok 52 rfl) rfl ?_
                exact r_retu (pc := 169) (dq D_R_readLine_1_ok 12 rfl) rfl
            · refine q_aload_n (pc := 100) (dq D_R_readLine_0_ok 43 rfl) rfl 0 rfl ?_
              refine r_invU (Mc := M_R_readFeast) (pc := 101) (ci := 1) (rest := []) 4 0 [] (dq D_R_readLine_0_ok 44 rfl) rfl rfl lc_R_readFeast lv_R_readFeast_ ml_R_105 rfl rfl rfl rfl (t_R_readFeast v0 h10) (fun _ h28 => ?_)
              refine q_goto (pc := 104) 169 (dq D_R_readLine_0_ok 45 rfl) rfl ?_
              exact r_retu (pc := 169) (dq D_R_readLine_1_ok 12 rfl) rfl
          · refine q_aload_n (pc := 83) (dq D_R_readLine_0_ok 36 rfl) rfl 0 rfl ?_
            refine r_invU (Mc := M_R_readGone) (pc := 84) (ci := 1) (rest := []) 3 0 [] (dq D_R_readLine_0_ok 37 rfl) rfl rfl lc_R_readGone lv_R_readGone_ ml_R_100 rfl rfl rfl rfl (t_R_readGone v0 h8) (fun _ h30 => ?_)
            refine q_goto (pc := 87) 169 (dq D_R_readLine_0_ok 38 rfl) rfl ?_
            exact r_retu (pc := 169) (dq D_R_readLine_1_ok 12 rfl) rfl
        · refine q_aload_n (pc := 66) (dq D_R_readLine_0_ok 29 rfl) rfl 0 rfl ?_
          refine r_invU (Mc := M_R_readWheel) (pc := 67) (ci := 1) (rest := []) 3 0 [] (dq D_R_readLine_0_ok 30 rfl) rfl rfl lc_R_readWheel lv_R_readWheel_ ml_R_95 rfl rfl rfl rfl (t_R_readWheel v0 h6) (fun _ h32 => ?_)
          refine q_goto (pc := 70) 169 (dq D_R_readLine_0_ok 31 rfl) rfl ?_
          exact r_retu (pc := 169) (dq D_R_readLine_1_ok 12 rfl) rfl
      · refine q_aload_n (pc := 43) (dq D_R_readLine_0_ok 19 rfl) rfl 0 rfl ?_
        refine q_bipush (pc := 44) (v := 6) (dq D_R_readLine_0_ok 20 rfl) (by decide) ?_
        refine q_aload_n (pc := 46) (dq D_R_readLine_0_ok 21 rfl) rfl 0 rfl ?_
        refine r_getI (pc := 47) (dq D_R_readLine_0_ok 22 rfl) fa_R_70 rfl (fun x34 => ?_)
        refine r_invU (Mc := M_R_fail) (pc := 50) (ci := 1) (rest := []) 0 2 [.int 6, .int x34] (dq D_R_readLine_0_ok 23 rfl) rfl rfl lc_R_fail lv_R_fail_ ml_R_73 rfl rfl rfl rfl (t_R_fail v0 (6 : Int32) x34 h3) (fun _ h35 => ?_)
        refine q_goto (pc := 53) 169 (dq D_R_readLine_0_ok 24 rfl) rfl ?_
        exact r_retu (pc := 169) (dq D_R_readLine_1_ok 12 rfl) rfl
    · refine q_aload_n (pc := 29) (dq D_R_readLine_0_ok 13 rfl) rfl 0 rfl ?_
      refine r_invU (Mc := M_R_readBrass) (pc := 30) (ci := 1) (rest := []) 3 0 [] (dq D_R_readLine_0_ok 14 rfl) rfl rfl lc_R_readBrass lv_R_readBrass_ ml_R_90 rfl rfl rfl rfl (t_R_readBrass v0 h3) (fun _ h37 => ?_)
      refine q_goto (pc := 33) 169 (dq D_R_readLine_0_ok 15 rfl) rfl ?_
      exact r_retu (pc := 169) (dq D_R_readLine_1_ok 12 rfl) rfl
  · refine q_aload_n (pc := 7) (dq D_R_readLine_0_ok 3 rfl) rfl 0 rfl ?_
    refine q_ic1 (pc := 8) (dq D_R_readLine_0_ok 4 rfl) ?_
    refine q_aload_n (pc := 9) (dq D_R_readLine_0_ok 5 rfl) rfl 0 rfl ?_
    refine r_getI (pc := 10) (dq D_R_readLine_0_ok 6 rfl) fa_R_70 rfl (fun x39 => ?_)
    refine r_invU (Mc := M_R_fail) (pc := 13) (ci := 1) (rest := []) 0 2 [.int 1, .int x39] (dq D_R_readLine_0_ok 7 rfl) rfl rfl lc_R_fail lv_R_fail_ ml_R_73 rfl rfl rfl rfl (t_R_fail v0 (1 : Int32) x39 h1) (fun _ h40 => ?_)
    refine q_goto (pc := 16) 169 (dq D_R_readLine_0_ok 8 rfl) rfl ?_
    exact r_retu (pc := 169) (dq D_R_readLine_1_ok 12 rfl) rfl
noncomputable def b_R_read_117 (v0 : Nat) (h : Hp) : Option (Int32 × Hp) := gd (hS h v0 = some (.inl 1)) (bR (hR h v0 2) fun x1 => gd (hS h x1 = some (.inl 2)) (lt (hI h x1 2) fun x2 => if x2 = 0 then (gd (hS h v0 = some (.inl 1)) (lt (hI h v0 6) fun x4 => gd (hS h v0 = some (.inl 1)) (bd (f_R_fail v0 (6 : Int32) x4 h) fun _ h5 => gd (hS h5 v0 = some (.inl 1)) (lt (hI h5 v0 4) fun x7 => some (x7, h5))))) else (gd (hS h v0 = some (.inl 1)) (lt (hI h v0 4) fun x3 => some (x3, h)))))
set_option maxHeartbeats 4000000 in
set_option maxRecDepth 20000 in
theorem tb_R_read_117 {G : GG} (v0 : Nat) (h : Hp) : T G M_R_read 6 cI 117 [(0, .ref v0)] [] h (b_R_read_117 v0 h) := by
  unfold b_R_read_117
  refine q_aload_n (pc := 117) (dq D_R_read_1_ok 1 rfl) rfl 0 rfl ?_
  refine q_getR (pc := 118) (dq D_R_read_1_ok 2 rfl) fa_R_36 rfl (fun x1 => ?_)
  refine r_getI (pc := 121) (dq D_R_read_1_ok 3 rfl) fa_R_77 rfl (fun x2 => ?_)
  refine p_if_ne (pc := 124) 137 (dq D_R_read_1_ok 4 rfl) rfl ?_ ?_
  · refine q_aload_n (pc := 137) (dq D_R_read_1_ok 10 rfl) rfl 0 rfl ?_
    refine r_getI (pc := 138) (dq D_R_read_1_ok 11 rfl) fa_R_49 rfl (fun x3 => ?_)
    exact r_reti (pc := 141) (dq D_R_read_1_ok 12 rfl) rfl
  · refine q_aload_n (pc := 127) (dq D_R_read_1_ok 5 rfl) rfl 0 rfl ?_
    refine q_bipush (pc := 128) (v := 6) (dq D_R_read_1_ok 6 rfl) (by decide) ?_
    refine q_aload_n (pc := 130) (dq D_R_read_1_ok 7 rfl) rfl 0 rfl ?_
    refine r_getI (pc := 131) (dq D_R_read_1_ok 8 rfl) fa_R_70 rfl (fun x4 => ?_)
    refine r_invU (Mc := M_R_fail) (pc := 134) (ci := 1) (rest := []) 0 2 [.int 6, .int x4] (dq D_R_read_1_ok 9 rfl) rfl rfl lc_R_fail lv_R_fail_ ml_R_73 rfl rfl rfl rfl (t_R_fail v0 (6 : Int32) x4 h) (fun _ h5 => ?_)
    refine q_aload_n (pc := 137) (dq D_R_read_1_ok 10 rfl) rfl 0 rfl ?_
    refine r_getI (pc := 138) (dq D_R_read_1_ok 11 rfl) fa_R_49 rfl (fun x7 => ?_)
    exact r_reti (pc := 141) (dq D_R_read_1_ok 12 rfl) rfl
noncomputable def b_R_read_101 (v0 : Nat) (h : Hp) : Option (Int32 × Hp) := gd (hS h v0 = some (.inl 1)) (lt (hI h v0 8) fun x1 => if x1 = 0 then (b_R_read_117 v0 h) else (gd (hS h v0 = some (.inl 1)) (lt (hI h v0 6) fun x2 => gd (hS h v0 = some (.inl 1)) (bd (f_R_fail v0 (1 : Int32) x2 h) fun _ h3 => b_R_read_117 v0 h3))))
set_option maxHeartbeats 4000000 in
set_option maxRecDepth 20000 in
theorem tb_R_read_101 {G : GG} (v0 : Nat) (h : Hp) : T G M_R_read 6 cI 101 [(0, .ref v0)] [] h (b_R_read_101 v0 h) := by
  unfold b_R_read_101
  refine q_aload_n (pc := 101) (dq D_R_read_0_ok 53 rfl) rfl 0 rfl ?_
  refine r_getI (pc := 102) (dq D_R_read_0_ok 54 rfl) fa_R_67 rfl (fun x1 => ?_)
  refine p_if_eq (pc := 105) 117 (dq D_R_read_0_ok 55 rfl) rfl ?_ ?_
  · exact T.lsub [0] rfl (tb_R_read_117 v0 h)
  · refine q_aload_n (pc := 108) (dq D_R_read_0_ok 56 rfl) rfl 0 rfl ?_
    refine q_ic1 (pc := 109) (dq D_R_read_0_ok 57 rfl) ?_
    refine q_aload_n (pc := 110) (dq D_R_read_0_ok 58 rfl) rfl 0 rfl ?_
    refine r_getI (pc := 111) (dq D_R_read_0_ok 59 rfl) fa_R_70 rfl (fun x2 => ?_)
    refine r_invU (Mc := M_R_fail) (pc := 114) (ci := 1) (rest := []) 0 2 [.int 1, .int x2] (dq D_R_read_1_ok 0 rfl) rfl rfl lc_R_fail lv_R_fail_ ml_R_73 rfl rfl rfl rfl (t_R_fail v0 (1 : Int32) x2 h) (fun _ h3 => ?_)
    exact T.lsub [0] rfl (tb_R_read_117 v0 h3)
noncomputable def b_R_read_63 (k63 : (Nat × Int32) → Hp → Option (Int32 × Hp)) (v0 : Nat) (v4 : Int32) (h : Hp) : Option (Int32 × Hp) := gd (hS h v0 = some (.inl 1)) (lt (hI h v0 1) fun x1 => if x1 ≤ v4 then (b_R_read_101 v0 h) else (gd (hS h v0 = some (.inl 1)) (lt (hI h v0 4) fun x2 => if x2 = 0 then (gd (hS h v0 = some (.inl 1)) (lt (hI h v0 8) fun x3 => if x3 = 3 then (gd (hS h v0 = some (.inl 1)) (bd (f_R_step v0 h) fun _ h4 => gd (hS h4 v0 = some (.inl 1)) (bd (f_R_readLine v0 h4) fun _ h6 => k63 (v0, v4 + 1) h6))) else (b_R_read_101 v0 h))) else (b_R_read_101 v0 h))))
set_option maxHeartbeats 4000000 in
set_option maxRecDepth 20000 in
theorem tb_R_read_63 {G : GG} {k63 : (Nat × Int32) → Hp → Option (Int32 × Hp)} (hk63 : ∀ s h, T G M_R_read 6 cI 63 [(0, .ref s.1), (4, .int s.2)] [] h (k63 s h)) (v0 : Nat) (v4 : Int32) (h : Hp) : T G M_R_read 6 cI 63 [(0, .ref v0), (4, .int v4)] [] h (b_R_read_63 k63 v0 v4 h) := by
  unfold b_R_read_63
  refine q_iload (pc := 63) (dq D_R_read_0_ok 36 rfl) 1 rfl ?_
  refine q_aload_n (pc := 65) (dq D_R_read_0_ok 37 rfl) rfl 0 rfl ?_
  refine r_getI (pc := 66) (dq D_R_read_0_ok 38 rfl) fa_R_32 rfl (fun x1 => ?_)
  refine q_ic_ge (pc := 69) 101 (dq D_R_read_0_ok 39 rfl) rfl ?_ ?_
  · exact T.lsub [0] rfl (tb_R_read_101 v0 h)
  · refine q_aload_n (pc := 72) (dq D_R_read_0_ok 40 rfl) rfl 0 rfl ?_
    refine r_getI (pc := 73) (dq D_R_read_0_ok 41 rfl) fa_R_49 rfl (fun x2 => ?_)
    refine p_if_ne (pc := 76) 101 (dq D_R_read_0_ok 42 rfl) rfl ?_ ?_
    · exact T.lsub [0] rfl (tb_R_read_101 v0 h)
    · refine q_aload_n (pc := 79) (dq D_R_read_0_ok 43 rfl) rfl 0 rfl ?_
      refine r_getI (pc := 80) (dq D_R_read_0_ok 44 rfl) fa_R_67 rfl (fun x3 => ?_)
      refine q_ic3 (pc := 83) (dq D_R_read_0_ok 45 rfl) ?_
      refine q_ic_ne (pc := 84) 101 (dq D_R_read_0_ok 46 rfl) rfl ?_ ?_
      · exact T.lsub [0] rfl (tb_R_read_101 v0 h)
      · refine q_aload_n (pc := 87) (dq D_R_read_0_ok 47 rfl) rfl 0 rfl ?_
        refine r_invU (Mc := M_R_step) (pc := 88) (ci := 1) (rest := []) 1 0 [] (dq D_R_read_0_ok 48 rfl) rfl rfl lc_R_step lv_R_step_ ml_R_61 rfl rfl rfl rfl (t_R_step v0 h) (fun _ h4 => ?_)
        refine q_aload_n (pc := 91) (dq D_R_read_0_ok 49 rfl) rfl 0 rfl ?_
        refine r_invU (Mc := M_R_readLine) (pc := 92) (ci := 1) (rest := []) 5 0 [] (dq D_R_read_0_ok 50 rfl) rfl rfl lc_R_readLine lv_R_readLine_ ml_R_64 rfl rfl rfl rfl (t_R_readLine v0 h4) (fun _ h6 => ?_)
        refine q_iinc (pc := 95) (v := (1)) (ls' := [(4, .int (v4 + 1)), (0, .ref v0)]) (dq D_R_read_0_ok 51 rfl) 1 rfl (by decide) rfl rfl ?_
        refine q_goto (pc := 98) 63 (dq D_R_read_0_ok 52 rfl) rfl ?_
        exact T.lsub [1, 0] rfl (hk63 (v0, v4 + 1) h6)
noncomputable def l_R_read_63 : Nat → (Nat × Int32) → Hp → Option (Int32 × Hp) := lp (fun k63 s h => b_R_read_63 k63 s.1 s.2 h)
set_option maxHeartbeats 4000000 in
set_option maxRecDepth 20000 in
theorem tl_R_read_63 {G : GG} (n : Nat) (s : Nat × Int32) (h : Hp) : T G M_R_read 6 cI 63 [(0, .ref s.1), (4, .int s.2)] [] h (l_R_read_63 n s h) :=
  T.loop (lsOf := fun s => [(0, .ref s.1), (4, .int s.2)]) (fun k63 hk63 s h => tb_R_read_63 hk63 s.1 s.2 h) n s h
noncomputable def f_R_read (v0 : Nat) (v1 : Nat) (v2 : Int32) (v3 : Nat) (h : Hp) : Option (Int32 × Hp) := gd (hS h v0 = some (.inl 1)) (lt (uR h v0 0 (some v1)) fun h1 => bR (al h1 v1 2) fun n2 => bd (f_Math_min v2 (Int32.ofNat n2) h1) fun r4 h3 => gd (hS h3 v0 = some (.inl 1)) (lt (uI h3 v0 1 r4) fun h5 => gd (hS h5 v0 = some (.inl 1)) (lt (uR h5 v0 2 (some v3)) fun h6 => gd (hS h6 v0 = some (.inl 1)) (bR (hR h6 v0 2) fun x7 => gd (hS h6 x7 = some (.inl 2)) (bd (f_O_clear x7 h6) fun _ h8 => gd (zb 0 ∧ hS h8 v0 = some (.inl 1)) (lt (uI h8 v0 3 0) fun h10 => gd (hS h10 v0 = some (.inl 1)) (lt (uI h10 v0 4 0) fun h11 => gd (hS h11 v0 = some (.inl 1)) (lt (uI h11 v0 5 ((-1))) fun h12 => gd (hS h12 v0 = some (.inl 1)) (lt (uI h12 v0 7 0) fun h13 => gd (hS h13 v0 = some (.inl 1)) (lt (uI h13 v0 12 0) fun h14 => gd (hS h14 v0 = some (.inl 1)) (bd (f_R_step v0 h14) fun _ h15 => gd (hS h15 v0 = some (.inl 1)) (bd (f_R_readLine v0 h15) fun _ h17 => lt (0 : Int32) fun y19 => l_R_read_63 FU (v0, y19) h17))))))))))))
set_option maxHeartbeats 4000000 in
set_option maxRecDepth 20000 in
theorem t_R_read {G : GG} (v0 : Nat) (v1 : Nat) (v2 : Int32) (v3 : Nat) (h : Hp) : Mt G M_R_read 6 [.ref v0, .ref v1, .int v2, .ref v3] cI h (f_R_read v0 v1 v2 v3 h) := by
  refine Mt.ofF (by decide +kernel) rfl (Rt.i rfl rfl) ?_
  show T G M_R_read 6 cI 0 [(0, .ref v0), (1, .ref v1), (2, .int v2), (3, .ref v3)] [] h _
  unfold f_R_read
  refine q_aload_n (pc := 0) (dq D_R_read_0_ok 0 rfl) rfl 0 rfl ?_
  refine q_aload_n (pc := 1) (dq D_R_read_0_ok 1 rfl) rfl 1 rfl ?_
  refine r_putR (pc := 2) (dq D_R_read_0_ok 2 rfl) fp_R_22 rfl rfl rfl (fun h1 => ?_)
  refine q_aload_n (pc := 5) (dq D_R_read_0_ok 3 rfl) rfl 0 rfl ?_
  refine q_iload_n (pc := 6) (dq D_R_read_0_ok 4 rfl) rfl 2 rfl ?_
  refine q_aload_n (pc := 7) (dq D_R_read_0_ok 5 rfl) rfl 1 rfl ?_
  refine r_alen (pc := 8) 2 (dq D_R_read_0_ok 6 rfl) rfl (fun n2 => ?_)
  refine r_insI (Mc := M_Math_min) (pc := 9) (rest := [.ref v0]) 0 2 [.int v2, .int (Int32.ofNat n2)] (dq D_R_read_0_ok 7 rfl) lc_Math_min ls_Math_min ml_R_26 rfl rfl rfl rfl (t_Math_min v2 (Int32.ofNat n2) h1) (fun r4 h3 => ?_)
  refine r_putI (pc := 12) (dq D_R_read_0_ok 8 rfl) fp_R_32 rfl rfl (fun h5 => ?_)
  refine q_aload_n (pc := 15) (dq D_R_read_0_ok 9 rfl) rfl 0 rfl ?_
  refine q_aload_n (pc := 16) (dq D_R_read_0_ok 10 rfl) rfl 3 rfl ?_
  refine r_putR (pc := 17) (dq D_R_read_0_ok 11 rfl) fp_R_36 rfl rfl rfl (fun h6 => ?_)
  refine q_aload_n (pc := 20) (dq D_R_read_0_ok 12 rfl) rfl 0 rfl ?_
  refine q_getR (pc := 21) (dq D_R_read_0_ok 13 rfl) fa_R_36 rfl (fun x7 => ?_)
  refine r_invU (Mc := M_O_clear) (pc := 24) (ci := 2) (rest := []) 1 0 [] (dq D_R_read_0_ok 14 rfl) rfl rfl lc_O_clear lv_O_clear_ ml_R_40 rfl rfl rfl rfl (t_O_clear x7 h6) (fun _ h8 => ?_)
  refine q_aload_n (pc := 27) (dq D_R_read_0_ok 15 rfl) rfl 0 rfl ?_
  refine q_ic0 (pc := 28) (dq D_R_read_0_ok 16 rfl) ?_
  refine r_putZ (pc := 29) (dq D_R_read_0_ok 17 rfl) fp_R_45 rfl rfl (fun h10 => ?_)
  refine q_aload_n (pc := 32) (dq D_R_read_0_ok 18 rfl) rfl 0 rfl ?_
  refine q_ic0 (pc := 33) (dq D_R_read_0_ok 19 rfl) ?_
  refine r_putI (pc := 34) (dq D_R_read_0_ok 20 rfl) fp_R_49 rfl rfl (fun h11 => ?_)
  refine q_aload_n (pc := 37) (dq D_R_read_0_ok 21 rfl) rfl 0 rfl ?_
  refine q_icm1 (pc := 38) (dq D_R_read_0_ok 22 rfl) ?_
  refine r_putI (pc := 39) (dq D_R_read_0_ok 23 rfl) fp_R_52 rfl rfl (fun h12 => ?_)
  refine q_aload_n (pc := 42) (dq D_R_read_0_ok 24 rfl) rfl 0 rfl ?_
  refine q_ic0 (pc := 43) (dq D_R_read_0_ok 25 rfl) ?_
  refine r_putI (pc := 44) (dq D_R_read_0_ok 26 rfl) fp_R_55 rfl rfl (fun h13 => ?_)
  refine q_aload_n (pc := 47) (dq D_R_read_0_ok 27 rfl) rfl 0 rfl ?_
  refine q_ic0 (pc := 48) (dq D_R_read_0_ok 28 rfl) ?_
  refine r_putI (pc := 49) (dq D_R_read_0_ok 29 rfl) fp_R_58 rfl rfl (fun h14 => ?_)
  refine q_aload_n (pc := 52) (dq D_R_read_0_ok 30 rfl) rfl 0 rfl ?_
  refine r_invU (Mc := M_R_step) (pc := 53) (ci := 1) (rest := []) 1 0 [] (dq D_R_read_0_ok 31 rfl) rfl rfl lc_R_step lv_R_step_ ml_R_61 rfl rfl rfl rfl (t_R_step v0 h14) (fun _ h15 => ?_)
  refine q_aload_n (pc := 56) (dq D_R_read_0_ok 32 rfl) rfl 0 rfl ?_
  refine r_invU (Mc := M_R_readLine) (pc := 57) (ci := 1) (rest := []) 5 0 [] (dq D_R_read_0_ok 33 rfl) rfl rfl lc_R_readLine lv_R_readLine_ ml_R_64 rfl rfl rfl rfl (t_R_readLine v0 h15) (fun _ h17 => ?_)
  refine q_ic0 (pc := 60) (dq D_R_read_0_ok 34 rfl) ?_
  refine r_nmI (fun y19 => ?_)
  refine q_istore (pc := 61) (ls' := [(4, .int y19), (0, .ref v0), (1, .ref v1), (2, .int v2), (3, .ref v3)]) (dq D_R_read_0_ok 35 rfl) rfl rfl ?_
  exact T.lsub [1, 0] rfl (tl_R_read_63 FU (v0, y19) h17)
noncomputable def b_O_putAtFirst_17 (k17 : (Nat × Nat × Int32) → Hp → Option (Unit × Hp)) (v0 : Nat) (v1 : Nat) (v2 : Int32) (h : Hp) : Option (Unit × Hp) := gd (hS h v0 = some (.inl 2)) (lt (hI h v0 2) fun x1 => if x1 ≤ v2 then (some ((), h)) else (gd (hS h v0 = some (.inl 2)) (bR (hR h v0 3) fun x2 => gd (ai h x2 4 v2) (bR (hR h x2 v2.toNatClampNeg) fun x3 => gd (hS h x3 = some (.inl 3)) (lt (hI h x3 3) fun x4 => gd (ai h v1 0 (3 + v2)) (lt (uI h v1 (3 + v2).toNatClampNeg x4) fun h5 => k17 (v0, v1, v2 + 1) h5))))))
set_option maxHeartbeats 4000000 in
set_option maxRecDepth 20000 in
theorem tb_O_putAtFirst_17 {G : GG} {k17 : (Nat × Nat × Int32) → Hp → Option (Unit × Hp)} (hk17 : ∀ s h, T G M_O_putAtFirst 0 cU 17 [(0, .ref s.1), (1, .ref s.2.1), (2, .int s.2.2)] [] h (k17 s h)) (v0 : Nat) (v1 : Nat) (v2 : Int32) (h : Hp) : T G M_O_putAtFirst 0 cU 17 [(0, .ref v0), (1, .ref v1), (2, .int v2)] [] h (b_O_putAtFirst_17 k17 v0 v1 v2 h) := by
  unfold b_O_putAtFirst_17
  refine q_iload_n (pc := 17) (dq D_O_putAtFirst_0_ok 15 rfl) rfl 2 rfl ?_
  refine q_aload_n (pc := 18) (dq D_O_putAtFirst_0_ok 16 rfl) rfl 0 rfl ?_
  refine r_getI (pc := 19) (dq D_O_putAtFirst_0_ok 17 rfl) fa_O_54 rfl (fun x1 => ?_)
  refine q_ic_ge (pc := 22) 45 (dq D_O_putAtFirst_0_ok 18 rfl) rfl ?_ ?_
  · exact r_retu (pc := 45) (dq D_O_putAtFirst_0_ok 31 rfl) rfl
  · refine q_aload_n (pc := 25) (dq D_O_putAtFirst_0_ok 19 rfl) rfl 1 rfl ?_
    refine q_ic3 (pc := 26) (dq D_O_putAtFirst_0_ok 20 rfl) ?_
    refine q_iload_n (pc := 27) (dq D_O_putAtFirst_0_ok 21 rfl) rfl 2 rfl ?_
    refine q_iadd (pc := 28) (dq D_O_putAtFirst_0_ok 22 rfl) ?_
    refine q_aload_n (pc := 29) (dq D_O_putAtFirst_0_ok 23 rfl) rfl 0 rfl ?_
    refine q_getR (pc := 30) (dq D_O_putAtFirst_0_ok 24 rfl) fa_O_11 rfl (fun x2 => ?_)
    refine q_iload_n (pc := 33) (dq D_O_putAtFirst_0_ok 25 rfl) rfl 2 rfl ?_
    refine r_aald (pc := 34) 4 (dq D_O_putAtFirst_0_ok 26 rfl) rfl rfl (fun _ => rfl) (fun x3 => ?_)
    refine r_getI (pc := 35) (dq D_O_putAtFirst_0_ok 27 rfl) fa_O_72 rfl (fun x4 => ?_)
    refine r_iast (pc := 38) (dq D_O_putAtFirst_0_ok 28 rfl) (fun h5 => ?_)
    refine q_iinc (pc := 39) (v := (1)) (ls' := [(2, .int (v2 + 1)), (0, .ref v0), (1, .ref v1)]) (dq D_O_putAtFirst_0_ok 29 rfl) 2 rfl (by decide) rfl rfl ?_
    refine q_goto (pc := 42) 17 (dq D_O_putAtFirst_0_ok 30 rfl) rfl ?_
    exact T.lsub [1, 2, 0] rfl (hk17 (v0, v1, v2 + 1) h5)
noncomputable def l_O_putAtFirst_17 : Nat → (Nat × Nat × Int32) → Hp → Option (Unit × Hp) := lp (fun k17 s h => b_O_putAtFirst_17 k17 s.1 s.2.1 s.2.2 h)
set_option maxHeartbeats 4000000 in
set_option maxRecDepth 20000 in
theorem tl_O_putAtFirst_17 {G : GG} (n : Nat) (s : Nat × Nat × Int32) (h : Hp) : T G M_O_putAtFirst 0 cU 17 [(0, .ref s.1), (1, .ref s.2.1), (2, .int s.2.2)] [] h (l_O_putAtFirst_17 n s h) :=
  T.loop (lsOf := fun s => [(0, .ref s.1), (1, .ref s.2.1), (2, .int s.2.2)]) (fun k17 hk17 s h => tb_O_putAtFirst_17 hk17 s.1 s.2.1 s.2.2 h) n s h
noncomputable def f_O_putAtFirst (v0 : Nat) (v1 : Nat) (h : Hp) : Option (Unit × Hp) := gd (ai h v1 0 0) (lt (uI h v1 (0 : Int32).toNatClampNeg 0) fun h1 => gd (hS h1 v0 = some (.inl 2)) (lt (hI h1 v0 0) fun x2 => gd (ai h1 v1 0 1) (lt (uI h1 v1 (1 : Int32).toNatClampNeg x2) fun h3 => gd (ai h3 v1 0 2) (lt (uI h3 v1 (2 : Int32).toNatClampNeg 0) fun h4 => lt (0 : Int32) fun y5 => l_O_putAtFirst_17 FU (v0, v1, y5) h4))))
set_option maxHeartbeats 4000000 in
set_option maxRecDepth 20000 in
theorem t_O_putAtFirst {G : GG} (v0 : Nat) (v1 : Nat) (h : Hp) : Mt G M_O_putAtFirst 0 [.ref v0, .ref v1] cU h (f_O_putAtFirst v0 v1 h) := by
  refine Mt.ofF (by decide +kernel) rfl (Rt.v rfl rfl) ?_
  show T G M_O_putAtFirst 0 cU 0 [(0, .ref v0), (1, .ref v1)] [] h _
  unfold f_O_putAtFirst
  refine q_aload_n (pc := 0) (dq D_O_putAtFirst_0_ok 0 rfl) rfl 1 rfl ?_
  refine q_ic0 (pc := 1) (dq D_O_putAtFirst_0_ok 1 rfl) ?_
  refine q_ic0 (pc := 2) (dq D_O_putAtFirst_0_ok 2 rfl) ?_
  refine r_iast (pc := 3) (dq D_O_putAtFirst_0_ok 3 rfl) (fun h1 => ?_)
  refine q_aload_n (pc := 4) (dq D_O_putAtFirst_0_ok 4 rfl) rfl 1 rfl ?_
  refine q_ic1 (pc := 5) (dq D_O_putAtFirst_0_ok 5 rfl) ?_
  refine q_aload_n (pc := 6) (dq D_O_putAtFirst_0_ok 6 rfl) rfl 0 rfl ?_
  refine r_getI (pc := 7) (dq D_O_putAtFirst_0_ok 7 rfl) fa_O_48 rfl (fun x2 => ?_)
  refine r_iast (pc := 10) (dq D_O_putAtFirst_0_ok 8 rfl) (fun h3 => ?_)
  refine q_aload_n (pc := 11) (dq D_O_putAtFirst_0_ok 9 rfl) rfl 1 rfl ?_
  refine q_ic2 (pc := 12) (dq D_O_putAtFirst_0_ok 10 rfl) ?_
  refine q_ic0 (pc := 13) (dq D_O_putAtFirst_0_ok 11 rfl) ?_
  refine r_iast (pc := 14) (dq D_O_putAtFirst_0_ok 12 rfl) (fun h4 => ?_)
  refine q_ic0 (pc := 15) (dq D_O_putAtFirst_0_ok 13 rfl) ?_
  refine r_nmI (fun y5 => ?_)
  refine q_istore_n (pc := 16) (ls' := [(2, .int y5), (0, .ref v0), (1, .ref v1)]) (dq D_O_putAtFirst_0_ok 14 rfl) rfl rfl rfl ?_
  exact T.lsub [1, 2, 0] rfl (tl_O_putAtFirst_17 FU (v0, v1, y5) h4)
noncomputable def f_P_forget (v0 : Nat) (h : Hp) : Option (Unit × Hp) := gd (hS h v0 = some (.inl 4)) (lt (uI h v0 2 0) fun h1 => gd (hS h1 v0 = some (.inl 4)) (lt (uI h1 v0 4 0) fun h2 => some ((), h2)))
set_option maxHeartbeats 4000000 in
set_option maxRecDepth 20000 in
theorem t_P_forget {G : GG} (v0 : Nat) (h : Hp) : Mt G M_P_forget 0 [.ref v0] cU h (f_P_forget v0 h) := by
  refine Mt.ofF (by decide +kernel) rfl (Rt.v rfl rfl) ?_
  show T G M_P_forget 0 cU 0 [(0, .ref v0)] [] h _
  unfold f_P_forget
  refine q_aload_n (pc := 0) (dq D_P_forget_0_ok 0 rfl) rfl 0 rfl ?_
  refine q_ic0 (pc := 1) (dq D_P_forget_0_ok 1 rfl) ?_
  refine r_putI (pc := 2) (dq D_P_forget_0_ok 2 rfl) fp_P_18 rfl rfl (fun h1 => ?_)
  refine q_aload_n (pc := 5) (dq D_P_forget_0_ok 3 rfl) rfl 0 rfl ?_
  refine q_ic0 (pc := 6) (dq D_P_forget_0_ok 4 rfl) ?_
  refine r_putI (pc := 7) (dq D_P_forget_0_ok 5 rfl) fp_P_22 rfl rfl (fun h2 => ?_)
  exact r_retu (pc := 10) (dq D_P_forget_0_ok 6 rfl) rfl
noncomputable def f_S_forget (v0 : Nat) (h : Hp) : Option (Unit × Hp) := gd (zb 0 ∧ hS h v0 = some (.inl 8)) (lt (uI h v0 7 0) fun h1 => some ((), h1))
set_option maxHeartbeats 4000000 in
set_option maxRecDepth 20000 in
theorem t_S_forget {G : GG} (v0 : Nat) (h : Hp) : Mt G M_S_forget 0 [.ref v0] cU h (f_S_forget v0 h) := by
  refine Mt.ofF (by decide +kernel) rfl (Rt.v rfl rfl) ?_
  show T G M_S_forget 0 cU 0 [(0, .ref v0)] [] h _
  unfold f_S_forget
  refine q_aload_n (pc := 0) (dq D_S_forget_0_ok 0 rfl) rfl 0 rfl ?_
  refine q_ic0 (pc := 1) (dq D_S_forget_0_ok 1 rfl) ?_
  refine r_putZ (pc := 2) (dq D_S_forget_0_ok 2 rfl) fp_S_29 rfl rfl (fun h1 => ?_)
  exact r_retu (pc := 5) (dq D_S_forget_0_ok 3 rfl) rfl
noncomputable def f_B_grant (v0 : Nat) (v1 : Int32) (h : Hp) : Option (Int32 × Hp) := gd (hS h v0 = some (.inl 0)) (lt (uI h v0 15 0) fun h1 => some (v1, h1))
set_option maxHeartbeats 4000000 in
set_option maxRecDepth 20000 in
theorem t_B_grant {G : GG} (v0 : Nat) (v1 : Int32) (h : Hp) : Mt G M_B_grant 0 [.ref v0, .int v1] cI h (f_B_grant v0 v1 h) := by
  refine Mt.ofF (by decide +kernel) rfl (Rt.i rfl rfl) ?_
  show T G M_B_grant 0 cI 0 [(0, .ref v0), (1, .int v1)] [] h _
  unfold f_B_grant
  refine q_aload_n (pc := 0) (dq D_B_grant_0_ok 0 rfl) rfl 0 rfl ?_
  refine q_ic0 (pc := 1) (dq D_B_grant_0_ok 1 rfl) ?_
  refine r_putI (pc := 2) (dq D_B_grant_0_ok 2 rfl) fp_B_112 rfl rfl (fun h1 => ?_)
  refine q_iload_n (pc := 5) (dq D_B_grant_0_ok 3 rfl) rfl 1 rfl ?_
  exact r_reti (pc := 6) (dq D_B_grant_0_ok 4 rfl) rfl
noncomputable def b_B_orrery_12 (v0 : Nat) (h : Hp) : Option (Int32 × Hp) := gd (hS h v0 = some (.inl 0)) (bd (f_B_refuse v0 (2 : Int32) h) fun r2 h1 => some (r2, h1))
set_option maxHeartbeats 4000000 in
set_option maxRecDepth 20000 in
theorem tb_B_orrery_12 {G : GG} (v0 : Nat) (h : Hp) : T G M_B_orrery 7 cI 12 [(0, .ref v0)] [] h (b_B_orrery_12 v0 h) := by
  unfold b_B_orrery_12
  refine q_aload_n (pc := 12) (dq D_B_orrery_0_ok 6 rfl) rfl 0 rfl ?_
  refine q_ic2 (pc := 13) (dq D_B_orrery_0_ok 7 rfl) ?_
  refine r_invI (Mc := M_B_refuse) (pc := 14) (ci := 0) (rest := []) 0 1 [.int 2] (dq D_B_orrery_0_ok 8 rfl) rfl rfl lc_B_refuse lv_B_refuse_ ml_B_87 rfl rfl rfl rfl (t_B_refuse v0 (2 : Int32) h) (fun r2 h1 => ?_)
  exact r_reti (pc := 17) (dq D_B_orrery_0_ok 9 rfl) rfl
noncomputable def f_B_orrery (v0 : Nat) (v1 : Int32) (h : Hp) : Option (Int32 × Hp) := if v1 < 0 then (b_B_orrery_12 v0 h) else (gd (hS h v0 = some (.inl 0)) (lt (hI h v0 1) fun x1 => if v1 ≤ x1 then (gd (hS h v0 = some (.inl 0)) (lt (uI h v0 1 0) fun h2 => gd (hS h2 v0 = some (.inl 0)) (bR (hR h2 v0 2) fun x3 => gd (hS h2 v0 = some (.inl 0)) (bR (hR h2 v0 0) fun x4 => gd (hS h2 v0 = some (.inl 0)) (bR (hR h2 v0 4) fun x5 => gd (hS h2 x3 = some (.inl 1)) (bd (f_R_read x3 x4 v1 x5 h2) fun r7 h6 => gd (hS h6 v0 = some (.inl 0)) (lt (uI h6 v0 14 r7) fun h8 => gd (hS h8 v0 = some (.inl 0)) (lt (hI h8 v0 14) fun x9 => if x9 = 0 then (gd (hS h8 v0 = some (.inl 0)) (bR (hR h8 v0 3) fun x10 => gd (hS h8 v0 = some (.inl 0)) (bR (hR h8 v0 4) fun x11 => gd (hS h8 v0 = some (.inl 0)) (lt (uR h8 v0 3 (some x11)) fun h12 => gd (hS h12 v0 = some (.inl 0)) (lt (uR h12 v0 4 (some x10)) fun h13 => gd (hS h13 v0 = some (.inl 0)) (bR (hR h13 v0 3) fun x14 => gd (hS h13 v0 = some (.inl 0)) (bR (hR h13 v0 5) fun x15 => gd (hS h13 x14 = some (.inl 2)) (bd (f_O_putAtFirst x14 x15 h13) fun _ h16 => gd (hS h16 v0 = some (.inl 0)) (bR (hR h16 v0 8) fun x18 => gd (hS h16 x18 = some (.inl 4)) (bd (f_P_forget x18 h16) fun _ h19 => gd (hS h19 v0 = some (.inl 0)) (bR (hR h19 v0 11) fun x21 => gd (hS h19 x21 = some (.inl 8)) (bd (f_S_forget x21 h19) fun _ h22 => gd (hS h22 v0 = some (.inl 0)) (bR (hR h22 v0 3) fun x24 => gd (hS h22 x24 = some (.inl 2)) (lt (hI h22 x24 2) fun x25 => gd (hS h22 v0 = some (.inl 0)) (bd (f_B_grant v0 x25 h22) fun r27 h26 => some (r27, h26)))))))))))))))) else (gd (hS h8 v0 = some (.inl 0)) (bd (f_B_refuse v0 (4 : Int32) h8) fun r29 h28 => some (r29, h28))))))))))) else (b_B_orrery_12 v0 h)))
set_option maxHeartbeats 4000000 in
set_option maxRecDepth 20000 in
theorem t_B_orrery {G : GG} (v0 : Nat) (v1 : Int32) (h : Hp) : Mt G M_B_orrery 7 [.ref v0, .int v1] cI h (f_B_orrery v0 v1 h) := by
  refine Mt.ofF (by decide +kernel) rfl (Rt.i rfl rfl) ?_
  show T G M_B_orrery 7 cI 0 [(0, .ref v0), (1, .int v1)] [] h _
  unfold f_B_orrery
  refine q_iload_n (pc := 0) (dq D_B_orrery_0_ok 0 rfl) rfl 1 rfl ?_
  refine p_if_lt (pc := 1) 12 (dq D_B_orrery_0_ok 1 rfl) rfl ?_ ?_
  · exact T.lsub [0] rfl (tb_B_orrery_12 v0 h)
  · refine q_iload_n (pc := 4) (dq D_B_orrery_0_ok 2 rfl) rfl 1 rfl ?_
    refine q_aload_n (pc := 5) (dq D_B_orrery_0_ok 3 rfl) rfl 0 rfl ?_
    refine r_getI (pc := 6) (dq D_B_orrery_0_ok 4 rfl) fa_B_79 rfl (fun x1 => ?_)
    refine q_ic_le (pc := 9) 18 (dq D_B_orrery_0_ok 5 rfl) rfl ?_ ?_
    · refine q_aload_n (pc := 18) (dq D_B_orrery_0_ok 10 rfl) rfl 0 rfl ?_
      refine q_ic0 (pc := 19) (dq D_B_orrery_0_ok 11 rfl) ?_
      refine r_putI (pc := 20) (dq D_B_orrery_0_ok 12 rfl) fp_B_79 rfl rfl (fun h2 => ?_)
      refine q_aload_n (pc := 23) (dq D_B_orrery_0_ok 13 rfl) rfl 0 rfl ?_
      refine q_aload_n (pc := 24) (dq D_B_orrery_0_ok 14 rfl) rfl 0 rfl ?_
      refine q_getR (pc := 25) (dq D_B_orrery_0_ok 15 rfl) fa_B_16 rfl (fun x3 => ?_)
      refine q_aload_n (pc := 28) (dq D_B_orrery_0_ok 16 rfl) rfl 0 rfl ?_
      refine q_getR (pc := 29) (dq D_B_orrery_0_ok 17 rfl) fa_B_9 rfl (fun x4 => ?_)
      refine q_iload_n (pc := 32) (dq D_B_orrery_0_ok 18 rfl) rfl 1 rfl ?_
      refine q_aload_n (pc := 33) (dq D_B_orrery_0_ok 19 rfl) rfl 0 rfl ?_
      refine q_getR (pc := 34) (dq D_B_orrery_0_ok 20 rfl) fa_B_27 rfl (fun x5 => ?_)
      refine r_invI (Mc := M_R_read) (pc := 37) (ci := 1) (rest := [.ref v0]) 6 3 [.ref x4, .int v1, .ref x5] (dq D_B_orrery_0_ok 21 rfl) rfl rfl lc_R_read lv_R_read_ ml_B_91 rfl rfl rfl rfl (t_R_read x3 x4 v1 x5 h2) (fun r7 h6 => ?_)
      refine r_putI (pc := 40) (dq D_B_orrery_0_ok 22 rfl) fp_B_95 rfl rfl (fun h8 => ?_)
      refine q_aload_n (pc := 43) (dq D_B_orrery_0_ok 23 rfl) rfl 0 rfl ?_
      refine r_getI (pc := 44) (dq D_B_orrery_0_ok 24 rfl) fa_B_95 rfl (fun x9 => ?_)
      refine p_if_eq (pc := 47) 56 (dq D_B_orrery_0_ok 25 rfl) rfl ?_ ?_
      · refine q_aload_n (pc := 56) (dq D_B_orrery_0_ok 30 rfl) rfl 0 rfl ?_
        refine q_getR (pc := 57) (dq D_B_orrery_0_ok 31 rfl) fa_B_23 rfl (fun x10 => ?_)
        refine q_astore_n (pc := 60) (ls' := [(2, .ref x10), (0, .ref v0), (1, .int v1)]) (dq D_B_orrery_0_ok 32 rfl) rfl rfl rfl ?_
        refine q_aload_n (pc := 61) (dq D_B_orrery_0_ok 33 rfl) rfl 1 rfl ?_
        refine q_aload_n (pc := 62) (dq D_B_orrery_0_ok 34 rfl) rfl 1 rfl ?_
        refine q_getR (pc := 63) (dq D_B_orrery_0_ok 35 rfl) fa_B_27 rfl (fun x11 => ?_)
        refine r_putR (pc := 66) (dq D_B_orrery_0_ok 36 rfl) fp_B_23 rfl rfl rfl (fun h12 => ?_)
        refine q_aload_n (pc := 69) (dq D_B_orrery_0_ok 37 rfl) rfl 1 rfl ?_
        refine q_aload_n (pc := 70) (dq D_B_orrery_0_ok 38 rfl) rfl 0 rfl ?_
        refine r_putR (pc := 71) (dq D_B_orrery_0_ok 39 rfl) fp_B_27 rfl rfl rfl (fun h13 => ?_)
        refine q_aload_n (pc := 74) (dq D_B_orrery_0_ok 40 rfl) rfl 1 rfl ?_
        refine q_getR (pc := 75) (dq D_B_orrery_0_ok 41 rfl) fa_B_23 rfl (fun x14 => ?_)
        refine q_aload_n (pc := 78) (dq D_B_orrery_0_ok 42 rfl) rfl 1 rfl ?_
        refine q_getR (pc := 79) (dq D_B_orrery_0_ok 43 rfl) fa_B_30 rfl (fun x15 => ?_)
        refine r_invU (Mc := M_O_putAtFirst) (pc := 82) (ci := 2) (rest := []) 0 1 [.ref x15] (dq D_B_orrery_0_ok 44 rfl) rfl rfl lc_O_putAtFirst lv_O_putAtFirst_ ml_B_98 rfl rfl rfl rfl (t_O_putAtFirst x14 x15 h13) (fun _ h16 => ?_)
        refine q_aload_n (pc := 85) (dq D_B_orrery_0_ok 45 rfl) rfl 1 rfl ?_
        refine q_getR (pc := 86) (dq D_B_orrery_0_ok 46 rfl) fa_B_40 rfl (fun x18 => ?_)
        refine r_invU (Mc := M_P_forget) (pc := 89) (ci := 4) (rest := []) 0 0 [] (dq D_B_orrery_0_ok 47 rfl) rfl rfl lc_P_forget lv_P_forget_ ml_B_102 rfl rfl rfl rfl (t_P_forget x18 h16) (fun _ h19 => ?_)
        refine q_aload_n (pc := 92) (dq D_B_orrery_0_ok 48 rfl) rfl 1 rfl ?_
        refine q_getR (pc := 93) (dq D_B_orrery_0_ok 49 rfl) fa_B_61 rfl (fun x21 => ?_)
        refine r_invU (Mc := M_S_forget) (pc := 96) (ci := 8) (rest := []) 0 0 [] (dq D_B_orrery_0_ok 50 rfl) rfl rfl lc_S_forget lv_S_forget_ ml_B_105 rfl rfl rfl rfl (t_S_forget x21 h19) (fun _ h22 => ?_)
        refine q_aload_n (pc := 99) (dq D_B_orrery_0_ok 51 rfl) rfl 1 rfl ?_
        refine q_aload_n (pc := 100) (dq D_B_orrery_0_ok 52 rfl) rfl 1 rfl ?_
        refine q_getR (pc := 101) (dq D_B_orrery_0_ok 53 rfl) fa_B_23 rfl (fun x24 => ?_)
        refine r_getI (pc := 104) (dq D_B_orrery_0_ok 54 rfl) fa_B_106 rfl (fun x25 => ?_)
        refine r_invI (Mc := M_B_grant) (pc := 107) (ci := 0) (rest := []) 0 1 [.int x25] (dq D_B_orrery_0_ok 55 rfl) rfl rfl lc_B_grant lv_B_grant_ ml_B_109 rfl rfl rfl rfl (t_B_grant v0 x25 h22) (fun r27 h26 => ?_)
        exact r_reti (pc := 110) (dq D_B_orrery_0_ok 56 rfl) rfl
      · refine q_aload_n (pc := 50) (dq D_B_orrery_0_ok 26 rfl) rfl 0 rfl ?_
        refine q_ic4 (pc := 51) (dq D_B_orrery_0_ok 27 rfl) ?_
        refine r_invI (Mc := M_B_refuse) (pc := 52) (ci := 0) (rest := []) 0 1 [.int 4] (dq D_B_orrery_0_ok 28 rfl) rfl rfl lc_B_refuse lv_B_refuse_ ml_B_87 rfl rfl rfl rfl (t_B_refuse v0 (4 : Int32) h8) (fun r29 h28 => ?_)
        exact r_reti (pc := 55) (dq D_B_orrery_0_ok 29 rfl) rfl
    · exact T.lsub [0] rfl (tb_B_orrery_12 v0 h)
noncomputable def f_B_fault (v0 : Nat) (h : Hp) : Option (Int32 × Hp) := gd (hS h v0 = some (.inl 0)) (lt (hI h v0 14) fun x1 => some (x1, h))
set_option maxHeartbeats 4000000 in
set_option maxRecDepth 20000 in
theorem t_B_fault {G : GG} (v0 : Nat) (h : Hp) : Mt G M_B_fault 0 [.ref v0] cI h (f_B_fault v0 h) := by
  refine Mt.ofF (by decide +kernel) rfl (Rt.i rfl rfl) ?_
  show T G M_B_fault 0 cI 0 [(0, .ref v0)] [] h _
  unfold f_B_fault
  refine q_aload_n (pc := 0) (dq D_B_fault_0_ok 0 rfl) rfl 0 rfl ?_
  refine r_getI (pc := 1) (dq D_B_fault_0_ok 1 rfl) fa_B_95 rfl (fun x1 => ?_)
  exact r_reti (pc := 4) (dq D_B_fault_0_ok 2 rfl) rfl
noncomputable def f_B_where (v0 : Nat) (h : Hp) : Option (Int32 × Hp) := gd (hS h v0 = some (.inl 0)) (lt (hI h v0 15) fun x1 => if x1 = 4 then (gd (hS h v0 = some (.inl 0)) (bR (hR h v0 2) fun x2 => gd (hS h x2 = some (.inl 1)) (lt (hI h x2 5) fun x3 => some (x3, h)))) else (some ((-1), h)))
set_option maxHeartbeats 4000000 in
set_option maxRecDepth 20000 in
theorem t_B_where {G : GG} (v0 : Nat) (h : Hp) : Mt G M_B_where 0 [.ref v0] cI h (f_B_where v0 h) := by
  refine Mt.ofF (by decide +kernel) rfl (Rt.i rfl rfl) ?_
  show T G M_B_where 0 cI 0 [(0, .ref v0)] [] h _
  unfold f_B_where
  refine q_aload_n (pc := 0) (dq D_B_where_0_ok 0 rfl) rfl 0 rfl ?_
  refine r_getI (pc := 1) (dq D_B_where_0_ok 1 rfl) fa_B_112 rfl (fun x1 => ?_)
  refine q_ic4 (pc := 4) (dq D_B_where_0_ok 2 rfl) ?_
  refine q_ic_ne (pc := 5) 18 (dq D_B_where_0_ok 3 rfl) rfl ?_ ?_
  · refine q_icm1 (pc := 18) (dq D_B_where_0_ok 8 rfl) ?_
    exact r_reti (pc := 19) (dq D_B_where_0_ok 9 rfl) rfl
  · refine q_aload_n (pc := 8) (dq D_B_where_0_ok 4 rfl) rfl 0 rfl ?_
    refine q_getR (pc := 9) (dq D_B_where_0_ok 5 rfl) fa_B_16 rfl (fun x2 => ?_)
    refine r_getI (pc := 12) (dq D_B_where_0_ok 6 rfl) fa_B_115 rfl (fun x3 => ?_)
    refine q_goto (pc := 15) 19 (dq D_B_where_0_ok 7 rfl) rfl ?_
    exact r_reti (pc := 19) (dq D_B_where_0_ok 9 rfl) rfl
noncomputable def f_B_hasWheel (v0 : Nat) (v1 : Int32) (h : Hp) : Option (Int32 × Hp) := if v1 < 0 then (gd (zb 0) (some (0, h))) else (gd (hS h v0 = some (.inl 0)) (bR (hR h v0 3) fun x1 => gd (hS h x1 = some (.inl 2)) (lt (hI h x1 2) fun x2 => if x2 ≤ v1 then (gd (zb 0) (some (0, h))) else (gd (zb 1) (some (1, h))))))
set_option maxHeartbeats 4000000 in
set_option maxRecDepth 20000 in
theorem t_B_hasWheel {G : GG} (v0 : Nat) (v1 : Int32) (h : Hp) : Mt G M_B_hasWheel 0 [.ref v0, .int v1] cI h (f_B_hasWheel v0 v1 h) := by
  refine Mt.ofF (by decide +kernel) rfl (Rt.z rfl rfl) ?_
  show T G M_B_hasWheel 0 cI 0 [(0, .ref v0), (1, .int v1)] [] h _
  unfold f_B_hasWheel
  refine q_iload_n (pc := 0) (dq D_B_hasWheel_0_ok 0 rfl) rfl 1 rfl ?_
  refine p_if_lt (pc := 1) 19 (dq D_B_hasWheel_0_ok 1 rfl) rfl ?_ ?_
  · refine q_ic0 (pc := 19) (dq D_B_hasWheel_0_ok 9 rfl) ?_
    exact r_retz (pc := 20) (dq D_B_hasWheel_0_ok 10 rfl) rfl
  · refine q_iload_n (pc := 4) (dq D_B_hasWheel_0_ok 2 rfl) rfl 1 rfl ?_
    refine q_aload_n (pc := 5) (dq D_B_hasWheel_0_ok 3 rfl) rfl 0 rfl ?_
    refine q_getR (pc := 6) (dq D_B_hasWheel_0_ok 4 rfl) fa_B_23 rfl (fun x1 => ?_)
    refine r_getI (pc := 9) (dq D_B_hasWheel_0_ok 5 rfl) fa_B_106 rfl (fun x2 => ?_)
    refine q_ic_ge (pc := 12) 19 (dq D_B_hasWheel_0_ok 6 rfl) rfl ?_ ?_
    · refine q_ic0 (pc := 19) (dq D_B_hasWheel_0_ok 9 rfl) ?_
      exact r_retz (pc := 20) (dq D_B_hasWheel_0_ok 10 rfl) rfl
    · refine q_ic1 (pc := 15) (dq D_B_hasWheel_0_ok 7 rfl) ?_
      refine q_goto (pc := 16) 20 (dq D_B_hasWheel_0_ok 8 rfl) rfl ?_
      exact r_retz (pc := 20) (dq D_B_hasWheel_0_ok 10 rfl) rfl
noncomputable def b_O_feastsOfWheel_28 (k4 : (Nat × Int32 × Int32 × Int32) → Hp → Option (Int32 × Hp)) (v0 : Nat) (v1 : Int32) (v2 : Int32) (v3 : Int32) (h : Hp) : Option (Int32 × Hp) := k4 (v0, v1, v2, v3 + 1) h
set_option maxHeartbeats 4000000 in
set_option maxRecDepth 20000 in
theorem tb_O_feastsOfWheel_28 {G : GG} {k4 : (Nat × Int32 × Int32 × Int32) → Hp → Option (Int32 × Hp)} (hk4 : ∀ s h, T G M_O_feastsOfWheel 1 cI 4 [(0, .ref s.1), (1, .int s.2.1), (2, .int s.2.2.1), (3, .int s.2.2.2)] [] h (k4 s h)) (v0 : Nat) (v1 : Int32) (v2 : Int32) (v3 : Int32) (h : Hp) : T G M_O_feastsOfWheel 1 cI 28 [(0, .ref v0), (1, .int v1), (2, .int v2), (3, .int v3)] [] h (b_O_feastsOfWheel_28 k4 v0 v1 v2 v3 h) := by
  unfold b_O_feastsOfWheel_28
  refine q_iinc (pc := 28) (v := (1)) (ls' := [(3, .int (v3 + 1)), (0, .ref v0), (1, .int v1), (2, .int v2)]) (dq D_O_feastsOfWheel_0_ok 20 rfl) 3 rfl (by decide) rfl rfl ?_
  refine q_goto (pc := 31) 4 (dq D_O_feastsOfWheel_0_ok 21 rfl) rfl ?_
  exact T.lsub [1, 2, 3, 0] rfl (hk4 (v0, v1, v2, v3 + 1) h)
noncomputable def b_O_feastsOfWheel_4 (k4 : (Nat × Int32 × Int32 × Int32) → Hp → Option (Int32 × Hp)) (v0 : Nat) (v1 : Int32) (v2 : Int32) (v3 : Int32) (h : Hp) : Option (Int32 × Hp) := gd (hS h v0 = some (.inl 2)) (lt (hI h v0 4) fun x1 => if x1 ≤ v3 then (some (v2, h)) else (gd (hS h v0 = some (.inl 2)) (bd (f_O_feastTooth v0 v3 v1 h) fun r3 h2 => if r3 = ((-1)) then (b_O_feastsOfWheel_28 k4 v0 v1 v2 v3 h2) else (lt (v2 ||| ((1 : Int32) <<< (v3 &&& 31)) : Int32) fun y4 => b_O_feastsOfWheel_28 k4 v0 v1 y4 v3 h2))))
set_option maxHeartbeats 4000000 in
set_option maxRecDepth 20000 in
theorem tb_O_feastsOfWheel_4 {G : GG} {k4 : (Nat × Int32 × Int32 × Int32) → Hp → Option (Int32 × Hp)} (hk4 : ∀ s h, T G M_O_feastsOfWheel 1 cI 4 [(0, .ref s.1), (1, .int s.2.1), (2, .int s.2.2.1), (3, .int s.2.2.2)] [] h (k4 s h)) (v0 : Nat) (v1 : Int32) (v2 : Int32) (v3 : Int32) (h : Hp) : T G M_O_feastsOfWheel 1 cI 4 [(0, .ref v0), (1, .int v1), (2, .int v2), (3, .int v3)] [] h (b_O_feastsOfWheel_4 k4 v0 v1 v2 v3 h) := by
  unfold b_O_feastsOfWheel_4
  refine q_iload_n (pc := 4) (dq D_O_feastsOfWheel_0_ok 4 rfl) rfl 3 rfl ?_
  refine q_aload_n (pc := 5) (dq D_O_feastsOfWheel_0_ok 5 rfl) rfl 0 rfl ?_
  refine r_getI (pc := 6) (dq D_O_feastsOfWheel_0_ok 6 rfl) fa_O_57 rfl (fun x1 => ?_)
  refine q_ic_ge (pc := 9) 34 (dq D_O_feastsOfWheel_0_ok 7 rfl) rfl ?_ ?_
  · refine q_iload_n (pc := 34) (dq D_O_feastsOfWheel_0_ok 22 rfl) rfl 2 rfl ?_
    exact r_reti (pc := 35) (dq D_O_feastsOfWheel_0_ok 23 rfl) rfl
  · refine q_aload_n (pc := 12) (dq D_O_feastsOfWheel_0_ok 8 rfl) rfl 0 rfl ?_
    refine q_iload_n (pc := 13) (dq D_O_feastsOfWheel_0_ok 9 rfl) rfl 3 rfl ?_
    refine q_iload_n (pc := 14) (dq D_O_feastsOfWheel_0_ok 10 rfl) rfl 1 rfl ?_
    refine r_invI (Mc := M_O_feastTooth) (pc := 15) (ci := 2) (rest := []) 0 2 [.int v3, .int v1] (dq D_O_feastsOfWheel_0_ok 11 rfl) rfl rfl lc_O_feastTooth lv_O_feastTooth_ ml_O_75 rfl rfl rfl rfl (t_O_feastTooth v0 v3 v1 h) (fun r3 h2 => ?_)
    refine q_icm1 (pc := 18) (dq D_O_feastsOfWheel_0_ok 12 rfl) ?_
    refine q_ic_eq (pc := 19) 28 (dq D_O_feastsOfWheel_0_ok 13 rfl) rfl ?_ ?_
    · exact T.lsub [0, 1, 2, 3] rfl (tb_O_feastsOfWheel_28 hk4 v0 v1 v2 v3 h2)
    · refine q_iload_n (pc := 22) (dq D_O_feastsOfWheel_0_ok 14 rfl) rfl 2 rfl ?_
      refine q_ic1 (pc := 23) (dq D_O_feastsOfWheel_0_ok 15 rfl) ?_
      refine q_iload_n (pc := 24) (dq D_O_feastsOfWheel_0_ok 16 rfl) rfl 3 rfl ?_
      refine q_ishl (pc := 25) (dq D_O_feastsOfWheel_0_ok 17 rfl) ?_
      refine q_ior (pc := 26) (dq D_O_feastsOfWheel_0_ok 18 rfl) ?_
      refine r_nmI (fun y4 => ?_)
      refine q_istore_n (pc := 27) (ls' := [(2, .int y4), (0, .ref v0), (1, .int v1), (3, .int v3)]) (dq D_O_feastsOfWheel_0_ok 19 rfl) rfl rfl rfl ?_
      exact T.lsub [1, 2, 0, 3] rfl (tb_O_feastsOfWheel_28 hk4 v0 v1 y4 v3 h2)
noncomputable def l_O_feastsOfWheel_4 : Nat → (Nat × Int32 × Int32 × Int32) → Hp → Option (Int32 × Hp) := lp (fun k4 s h => b_O_feastsOfWheel_4 k4 s.1 s.2.1 s.2.2.1 s.2.2.2 h)
set_option maxHeartbeats 4000000 in
set_option maxRecDepth 20000 in
theorem tl_O_feastsOfWheel_4 {G : GG} (n : Nat) (s : Nat × Int32 × Int32 × Int32) (h : Hp) : T G M_O_feastsOfWheel 1 cI 4 [(0, .ref s.1), (1, .int s.2.1), (2, .int s.2.2.1), (3, .int s.2.2.2)] [] h (l_O_feastsOfWheel_4 n s h) :=
  T.loop (lsOf := fun s => [(0, .ref s.1), (1, .int s.2.1), (2, .int s.2.2.1), (3, .int s.2.2.2)]) (fun k4 hk4 s h => tb_O_feastsOfWheel_4 hk4 s.1 s.2.1 s.2.2.1 s.2.2.2 h) n s h
noncomputable def f_O_feastsOfWheel (v0 : Nat) (v1 : Int32) (h : Hp) : Option (Int32 × Hp) := lt (0 : Int32) fun y1 => lt (0 : Int32) fun y2 => l_O_feastsOfWheel_4 FU (v0, v1, y1, y2) h
set_option maxHeartbeats 4000000 in
set_option maxRecDepth 20000 in
theorem t_O_feastsOfWheel {G : GG} (v0 : Nat) (v1 : Int32) (h : Hp) : Mt G M_O_feastsOfWheel 1 [.ref v0, .int v1] cI h (f_O_feastsOfWheel v0 v1 h) := by
  refine Mt.ofF (by decide +kernel) rfl (Rt.i rfl rfl) ?_
  show T G M_O_feastsOfWheel 1 cI 0 [(0, .ref v0), (1, .int v1)] [] h _
  unfold f_O_feastsOfWheel
  refine q_ic0 (pc := 0) (dq D_O_feastsOfWheel_0_ok 0 rfl) ?_
  refine r_nmI (fun y1 => ?_)
  refine q_istore_n (pc := 1) (ls' := [(2, .int y1), (0, .ref v0), (1, .int v1)]) (dq D_O_feastsOfWheel_0_ok 1 rfl) rfl rfl rfl ?_
  refine q_ic0 (pc := 2) (dq D_O_feastsOfWheel_0_ok 2 rfl) ?_
  refine r_nmI (fun y2 => ?_)
  refine q_istore_n (pc := 3) (ls' := [(3, .int y2), (2, .int y1), (0, .ref v0), (1, .int v1)]) (dq D_O_feastsOfWheel_0_ok 3 rfl) rfl rfl rfl ?_
  exact T.lsub [2, 3, 1, 0] rfl (tl_O_feastsOfWheel_4 FU (v0, v1, y1, y2) h)
noncomputable def b_B_wheel_17 (v0 : Nat) (h : Hp) : Option (Int32 × Hp) := gd (hS h v0 = some (.inl 0)) (bd (f_B_refuse v0 (1 : Int32) h) fun r2 h1 => some (r2, h1))
set_option maxHeartbeats 4000000 in
set_option maxRecDepth 20000 in
theorem tb_B_wheel_17 {G : GG} (v0 : Nat) (h : Hp) : T G M_B_wheel 2 cI 17 [(0, .ref v0)] [] h (b_B_wheel_17 v0 h) := by
  unfold b_B_wheel_17
  refine q_aload_n (pc := 17) (dq D_B_wheel_0_ok 9 rfl) rfl 0 rfl ?_
  refine q_ic1 (pc := 18) (dq D_B_wheel_0_ok 10 rfl) ?_
  refine r_invI (Mc := M_B_refuse) (pc := 19) (ci := 0) (rest := []) 0 1 [.int 1] (dq D_B_wheel_0_ok 11 rfl) rfl rfl lc_B_refuse lv_B_refuse_ ml_B_87 rfl rfl rfl rfl (t_B_refuse v0 (1 : Int32) h) (fun r2 h1 => ?_)
  exact r_reti (pc := 22) (dq D_B_wheel_0_ok 12 rfl) rfl
noncomputable def f_B_wheel (v0 : Nat) (v1 : Int32) (v2 : Int32) (h : Hp) : Option (Int32 × Hp) := gd (hS h v0 = some (.inl 0)) (bd (f_B_hasWheel v0 v1 h) fun r2 h1 => if r2 = 0 then (b_B_wheel_17 v0 h1) else (if v2 < 0 then (b_B_wheel_17 v0 h1) else (if v2 ≤ 5 then (gd (hS h1 v0 = some (.inl 0)) (bR (hR h1 v0 3) fun x3 => gd (hS h1 x3 = some (.inl 2)) (bR (hR h1 x3 3) fun x4 => gd (ai h1 x4 4 v1) (bR (hR h1 x4 v1.toNatClampNeg) fun x5 => if v2 = 0 then (gd (hS h1 x5 = some (.inl 3)) (lt (hI h1 x5 0) fun x6 => gd (hS h1 v0 = some (.inl 0)) (bd (f_B_grant v0 x6 h1) fun r8 h7 => some (r8, h7)))) else (if v2 = 1 then (gd (hS h1 x5 = some (.inl 3)) (lt (hI h1 x5 1) fun x9 => gd (hS h1 v0 = some (.inl 0)) (bd (f_B_grant v0 x9 h1) fun r11 h10 => some (r11, h10)))) else (if v2 = 2 then (gd (hS h1 x5 = some (.inl 3)) (lt (hI h1 x5 2) fun x12 => gd (hS h1 v0 = some (.inl 0)) (bd (f_B_grant v0 x12 h1) fun r14 h13 => some (r14, h13)))) else (if v2 = 3 then (gd (hS h1 v0 = some (.inl 0)) (bR (hR h1 v0 5) fun x15 => gd (ai h1 x15 0 (3 + v1)) (lt (hI h1 x15 (3 + v1).toNatClampNeg) fun x16 => gd (hS h1 v0 = some (.inl 0)) (bd (f_B_grant v0 x16 h1) fun r18 h17 => some (r18, h17))))) else (if v2 = 4 then (gd (hS h1 x5 = some (.inl 3)) (lt (hI h1 x5 4) fun x19 => gd (hS h1 v0 = some (.inl 0)) (bd (f_B_grant v0 x19 h1) fun r21 h20 => some (r21, h20)))) else (gd (hS h1 v0 = some (.inl 0)) (bR (hR h1 v0 3) fun x22 => gd (hS h1 x22 = some (.inl 2)) (bd (f_O_feastsOfWheel x22 v1 h1) fun r24 h23 => gd (hS h23 v0 = some (.inl 0)) (bd (f_B_grant v0 r24 h23) fun r26 h25 => some (r26, h25))))))))))))) else (b_B_wheel_17 v0 h1))))
set_option maxHeartbeats 4000000 in
set_option maxRecDepth 20000 in
theorem t_B_wheel {G : GG} (v0 : Nat) (v1 : Int32) (v2 : Int32) (h : Hp) : Mt G M_B_wheel 2 [.ref v0, .int v1, .int v2] cI h (f_B_wheel v0 v1 v2 h) := by
  refine Mt.ofF (by decide +kernel) rfl (Rt.i rfl rfl) ?_
  show T G M_B_wheel 2 cI 0 [(0, .ref v0), (1, .int v1), (2, .int v2)] [] h _
  unfold f_B_wheel
  refine q_aload_n (pc := 0) (dq D_B_wheel_0_ok 0 rfl) rfl 0 rfl ?_
  refine q_iload_n (pc := 1) (dq D_B_wheel_0_ok 1 rfl) rfl 1 rfl ?_
  refine r_invI (Mc := M_B_hasWheel) (pc := 2) (ci := 0) (rest := []) 0 1 [.int v1] (dq D_B_wheel_0_ok 2 rfl) rfl rfl lc_B_hasWheel lv_B_hasWheel_ ml_B_118 rfl rfl rfl rfl (t_B_hasWheel v0 v1 h) (fun r2 h1 => ?_)
  refine p_if_eq (pc := 5) 17 (dq D_B_wheel_0_ok 3 rfl) rfl ?_ ?_
  · exact T.lsub [0] rfl (tb_B_wheel_17 v0 h1)
  · refine q_iload_n (pc := 8) (dq D_B_wheel_0_ok 4 rfl) rfl 2 rfl ?_
    refine p_if_lt (pc := 9) 17 (dq D_B_wheel_0_ok 5 rfl) rfl ?_ ?_
    · exact T.lsub [0] rfl (tb_B_wheel_17 v0 h1)
    · refine q_iload_n (pc := 12) (dq D_B_wheel_0_ok 6 rfl) rfl 2 rfl ?_
      refine q_ic5 (pc := 13) (dq D_B_wheel_0_ok 7 rfl) ?_
      refine q_ic_le (pc := 14) 23 (dq D_B_wheel_0_ok 8 rfl) rfl ?_ ?_
      · refine q_aload_n (pc := 23) (dq D_B_wheel_0_ok 13 rfl) rfl 0 rfl ?_
        refine q_getR (pc := 24) (dq D_B_wheel_0_ok 14 rfl) fa_B_23 rfl (fun x3 => ?_)
        refine q_getR (pc := 27) (dq D_B_wheel_0_ok 15 rfl) fa_B_122 rfl (fun x4 => ?_)
        refine q_iload_n (pc := 30) (dq D_B_wheel_0_ok 16 rfl) rfl 1 rfl ?_
        refine r_aald (pc := 31) 4 (dq D_B_wheel_0_ok 17 rfl) rfl rfl (fun _ => rfl) (fun x5 => ?_)
        refine q_astore_n (pc := 32) (ls' := [(3, .ref x5), (0, .ref v0), (1, .int v1), (2, .int v2)]) (dq D_B_wheel_0_ok 18 rfl) rfl rfl rfl ?_
        refine q_iload_n (pc := 33) (dq D_B_wheel_0_ok 19 rfl) rfl 3 rfl ?_
        refine T.ite (fun e => ?_) (fun n0 => ?_)
        · refine r_tin (pc := 34) (c := 0) 68 (dq D_B_wheel_0_ok 20 rfl) e (by decide) (by decide) rfl rfl ?_
          refine q_aload_n (pc := 68) (dq D_B_wheel_0_ok 21 rfl) rfl 1 rfl ?_
          refine q_aload_n (pc := 69) (dq D_B_wheel_0_ok 22 rfl) rfl 0 rfl ?_
          refine r_getI (pc := 70) (dq D_B_wheel_0_ok 23 rfl) fa_B_126 rfl (fun x6 => ?_)
          refine r_invI (Mc := M_B_grant) (pc := 73) (ci := 0) (rest := []) 0 1 [.int x6] (dq D_B_wheel_0_ok 24 rfl) rfl rfl lc_B_grant lv_B_grant_ ml_B_109 rfl rfl rfl rfl (t_B_grant v0 x6 h1) (fun r8 h7 => ?_)
          exact r_reti (pc := 76) (dq D_B_wheel_0_ok 25 rfl) rfl
        refine T.ite (fun e => ?_) (fun n1 => ?_)
        · refine r_tin (pc := 34) (c := 1) 77 (dq D_B_wheel_0_ok 20 rfl) e (by decide) (by decide) rfl rfl ?_
          refine q_aload_n (pc := 77) (dq D_B_wheel_0_ok 26 rfl) rfl 1 rfl ?_
          refine q_aload_n (pc := 78) (dq D_B_wheel_0_ok 27 rfl) rfl 0 rfl ?_
          refine r_getI (pc := 79) (dq D_B_wheel_0_ok 28 rfl) fa_B_131 rfl (fun x9 => ?_)
          refine r_invI (Mc := M_B_grant) (pc := 82) (ci := 0) (rest := []) 0 1 [.int x9] (dq D_B_wheel_0_ok 29 rfl) rfl rfl lc_B_grant lv_B_grant_ ml_B_109 rfl rfl rfl rfl (t_B_grant v0 x9 h1) (fun r11 h10 => ?_)
          exact r_reti (pc := 85) (dq D_B_wheel_0_ok 30 rfl) rfl
        refine T.ite (fun e => ?_) (fun n2 => ?_)
        · refine r_tin (pc := 34) (c := 2) 86 (dq D_B_wheel_0_ok 20 rfl) e (by decide) (by decide) rfl rfl ?_
          refine q_aload_n (pc := 86) (dq D_B_wheel_0_ok 31 rfl) rfl 1 rfl ?_
          refine q_aload_n (pc := 87) (dq D_B_wheel_0_ok 32 rfl) rfl 0 rfl ?_
          refine r_getI (pc := 88) (dq D_B_wheel_0_ok 33 rfl) fa_B_134 rfl (fun x12 => ?_)
          refine r_invI (Mc := M_B_grant) (pc := 91) (ci := 0) (rest := []) 0 1 [.int x12] (dq D_B_wheel_0_ok 34 rfl) rfl rfl lc_B_grant lv_B_grant_ ml_B_109 rfl rfl rfl rfl (t_B_grant v0 x12 h1) (fun r14 h13 => ?_)
          exact r_reti (pc := 94) (dq D_B_wheel_0_ok 35 rfl) rfl
        refine T.ite (fun e => ?_) (fun n3 => ?_)
        · refine r_tin (pc := 34) (c := 3) 95 (dq D_B_wheel_0_ok 20 rfl) e (by decide) (by decide) rfl rfl ?_
          refine q_aload_n (pc := 95) (dq D_B_wheel_0_ok 36 rfl) rfl 1 rfl ?_
          refine q_aload_n (pc := 96) (dq D_B_wheel_0_ok 37 rfl) rfl 1 rfl ?_
          refine q_getR (pc := 97) (dq D_B_wheel_0_ok 38 rfl) fa_B_30 rfl (fun x15 => ?_)
          refine q_ic3 (pc := 100) (dq D_B_wheel_0_ok 39 rfl) ?_
          refine q_iload_n (pc := 101) (dq D_B_wheel_0_ok 40 rfl) rfl 2 rfl ?_
          refine q_iadd (pc := 102) (dq D_B_wheel_0_ok 41 rfl) ?_
          refine r_iald (pc := 103) (dq D_B_wheel_0_ok 42 rfl) (fun x16 => ?_)
          refine r_invI (Mc := M_B_grant) (pc := 104) (ci := 0) (rest := []) 0 1 [.int x16] (dq D_B_wheel_0_ok 43 rfl) rfl rfl lc_B_grant lv_B_grant_ ml_B_109 rfl rfl rfl rfl (t_B_grant v0 x16 h1) (fun r18 h17 => ?_)
          exact r_reti (pc := 107) (dq D_B_wheel_0_ok 44 rfl) rfl
        refine T.ite (fun e => ?_) (fun n4 => ?_)
        · refine r_tin (pc := 34) (c := 4) 108 (dq D_B_wheel_0_ok 20 rfl) e (by decide) (by decide) rfl rfl ?_
          refine q_aload_n (pc := 108) (dq D_B_wheel_0_ok 45 rfl) rfl 1 rfl ?_
          refine q_aload_n (pc := 109) (dq D_B_wheel_0_ok 46 rfl) rfl 0 rfl ?_
          refine r_getI (pc := 110) (dq D_B_wheel_0_ok 47 rfl) fa_B_137 rfl (fun x19 => ?_)
          refine r_invI (Mc := M_B_grant) (pc := 113) (ci := 0) (rest := []) 0 1 [.int x19] (dq D_B_wheel_0_ok 48 rfl) rfl rfl lc_B_grant lv_B_grant_ ml_B_109 rfl rfl rfl rfl (t_B_grant v0 x19 h1) (fun r21 h20 => ?_)
          exact r_reti (pc := 116) (dq D_B_wheel_0_ok 49 rfl) rfl
        refine r_tout (pc := 34) 117 (dq D_B_wheel_0_ok 20 rfl) (by have e0 := int_ne (z := 0) n0 (by decide); have e1 := int_ne (z := 1) n1 (by decide); have e2 := int_ne (z := 2) n2 (by decide); have e3 := int_ne (z := 3) n3 (by decide); have e4 := int_ne (z := 4) n4 (by decide); omega) rfl ?_
        refine q_aload_n (pc := 117) (dq D_B_wheel_0_ok 50 rfl) rfl 1 rfl ?_
        refine q_aload_n (pc := 118) (dq D_B_wheel_0_ok 51 rfl) rfl 1 rfl ?_
        refine q_getR (pc := 119) (dq D_B_wheel_0_ok 52 rfl) fa_B_23 rfl (fun x22 => ?_)
        refine q_iload_n (pc := 122) (dq D_B_wheel_0_ok 53 rfl) rfl 2 rfl ?_
        refine r_invI (Mc := M_O_feastsOfWheel) (pc := 123) (ci := 2) (rest := [.ref v0]) 1 1 [.int v1] (dq D_B_wheel_0_ok 54 rfl) rfl rfl lc_O_feastsOfWheel lv_O_feastsOfWheel_ ml_B_140 rfl rfl rfl rfl (t_O_feastsOfWheel x22 v1 h1) (fun r24 h23 => ?_)
        refine r_invI (Mc := M_B_grant) (pc := 126) (ci := 0) (rest := []) 0 1 [.int r24] (dq D_B_wheel_0_ok 55 rfl) rfl rfl lc_B_grant lv_B_grant_ ml_B_109 rfl rfl rfl rfl (t_B_grant v0 r24 h23) (fun r26 h25 => ?_)
        exact r_reti (pc := 129) (dq D_B_wheel_0_ok 56 rfl) rfl
      · exact T.lsub [0] rfl (tb_B_wheel_17 v0 h1)
noncomputable def f_W_hasTooth (v0 : Nat) (v1 : Int32) (h : Hp) : Option (Int32 × Hp) := if v1 < 0 then (gd (zb 0) (some (0, h))) else (gd (hS h v0 = some (.inl 3)) (lt (hI h v0 1) fun x1 => if x1 ≤ v1 then (gd (zb 0) (some (0, h))) else (gd (zb 1) (some (1, h)))))
set_option maxHeartbeats 4000000 in
set_option maxRecDepth 20000 in
theorem t_W_hasTooth {G : GG} (v0 : Nat) (v1 : Int32) (h : Hp) : Mt G M_W_hasTooth 0 [.ref v0, .int v1] cI h (f_W_hasTooth v0 v1 h) := by
  refine Mt.ofF (by decide +kernel) rfl (Rt.z rfl rfl) ?_
  show T G M_W_hasTooth 0 cI 0 [(0, .ref v0), (1, .int v1)] [] h _
  unfold f_W_hasTooth
  refine q_iload_n (pc := 0) (dq D_W_hasTooth_0_ok 0 rfl) rfl 1 rfl ?_
  refine p_if_lt (pc := 1) 16 (dq D_W_hasTooth_0_ok 1 rfl) rfl ?_ ?_
  · refine q_ic0 (pc := 16) (dq D_W_hasTooth_0_ok 8 rfl) ?_
    exact r_retz (pc := 17) (dq D_W_hasTooth_0_ok 9 rfl) rfl
  · refine q_iload_n (pc := 4) (dq D_W_hasTooth_0_ok 2 rfl) rfl 1 rfl ?_
    refine q_aload_n (pc := 5) (dq D_W_hasTooth_0_ok 3 rfl) rfl 0 rfl ?_
    refine r_getI (pc := 6) (dq D_W_hasTooth_0_ok 4 rfl) fa_W_15 rfl (fun x1 => ?_)
    refine q_ic_ge (pc := 9) 16 (dq D_W_hasTooth_0_ok 5 rfl) rfl ?_ ?_
    · refine q_ic0 (pc := 16) (dq D_W_hasTooth_0_ok 8 rfl) ?_
      exact r_retz (pc := 17) (dq D_W_hasTooth_0_ok 9 rfl) rfl
    · refine q_ic1 (pc := 12) (dq D_W_hasTooth_0_ok 6 rfl) ?_
      refine q_goto (pc := 13) 17 (dq D_W_hasTooth_0_ok 7 rfl) rfl ?_
      exact r_retz (pc := 17) (dq D_W_hasTooth_0_ok 9 rfl) rfl
noncomputable def b_B_isGone_58 (s0 : Int32) (s1 : Nat) (h : Hp) : Option (Int32 × Hp) := gd (hS h s1 = some (.inl 0)) (bd (f_B_grant s1 s0 h) fun r2 h1 => some (r2, h1))
set_option maxHeartbeats 4000000 in
set_option maxRecDepth 20000 in
theorem tb_B_isGone_58 {G : GG} (s0 : Int32) (s1 : Nat) (h : Hp) : T G M_B_isGone 1 cI 58 [] [.int s0, .ref s1] h (b_B_isGone_58 s0 s1 h) := by
  unfold b_B_isGone_58
  refine r_invI (Mc := M_B_grant) (pc := 58) (ci := 0) (rest := []) 0 1 [.int s0] (dq D_B_isGone_0_ok 32 rfl) rfl rfl lc_B_grant lv_B_grant_ ml_B_109 rfl rfl rfl rfl (t_B_grant s1 s0 h) (fun r2 h1 => ?_)
  exact r_reti (pc := 61) (dq D_B_isGone_0_ok 33 rfl) rfl
noncomputable def f_B_isGone (v0 : Nat) (v1 : Int32) (v2 : Int32) (h : Hp) : Option (Int32 × Hp) := gd (hS h v0 = some (.inl 0)) (bd (f_B_hasWheel v0 v1 h) fun r2 h1 => if r2 = 0 then (gd (hS h1 v0 = some (.inl 0)) (bd (f_B_refuse v0 (1 : Int32) h1) fun r16 h15 => some (r16, h15))) else (gd (hS h1 v0 = some (.inl 0)) (bR (hR h1 v0 3) fun x3 => gd (hS h1 x3 = some (.inl 2)) (bR (hR h1 x3 3) fun x4 => gd (ai h1 x4 4 v1) (bR (hR h1 x4 v1.toNatClampNeg) fun x5 => gd (hS h1 x5 = some (.inl 3)) (bd (f_W_hasTooth x5 v2 h1) fun r7 h6 => if r7 = 0 then (gd (hS h6 v0 = some (.inl 0)) (bd (f_B_refuse v0 (2 : Int32) h6) fun r14 h13 => some (r14, h13))) else (gd (hS h6 v0 = some (.inl 0)) (bR (hR h6 v0 3) fun x8 => gd (hS h6 x8 = some (.inl 2)) (bR (hR h6 x8 3) fun x9 => gd (ai h6 x9 4 v1) (bR (hR h6 x9 v1.toNatClampNeg) fun x10 => gd (hS h6 x10 = some (.inl 3)) (bd (f_W_lacks x10 v2 h6) fun r12 h11 => if r12 = 0 then (b_B_isGone_58 0 v0 h11) else (b_B_isGone_58 1 v0 h11))))))))))))
set_option maxHeartbeats 4000000 in
set_option maxRecDepth 20000 in
theorem t_B_isGone {G : GG} (v0 : Nat) (v1 : Int32) (v2 : Int32) (h : Hp) : Mt G M_B_isGone 1 [.ref v0, .int v1, .int v2] cI h (f_B_isGone v0 v1 v2 h) := by
  refine Mt.ofF (by decide +kernel) rfl (Rt.i rfl rfl) ?_
  show T G M_B_isGone 1 cI 0 [(0, .ref v0), (1, .int v1), (2, .int v2)] [] h _
  unfold f_B_isGone
  refine q_aload_n (pc := 0) (dq D_B_isGone_0_ok 0 rfl) rfl 0 rfl ?_
  refine q_iload_n (pc := 1) (dq D_B_isGone_0_ok 1 rfl) rfl 1 rfl ?_
  refine r_invI (Mc := M_B_hasWheel) (pc := 2) (ci := 0) (rest := []) 0 1 [.int v1] (dq D_B_isGone_0_ok 2 rfl) rfl rfl lc_B_hasWheel lv_B_hasWheel_ ml_B_118 rfl rfl rfl rfl (t_B_hasWheel v0 v1 h) (fun r2 h1 => ?_)
  refine p_if_ne (pc := 5) 14 (dq D_B_isGone_0_ok 3 rfl) rfl ?_ ?_
  · refine q_aload_n (pc := 14) (dq D_B_isGone_0_ok 8 rfl) rfl 0 rfl ?_
    refine q_getR (pc := 15) (dq D_B_isGone_0_ok 9 rfl) fa_B_23 rfl (fun x3 => ?_)
    refine q_getR (pc := 18) (dq D_B_isGone_0_ok 10 rfl) fa_B_122 rfl (fun x4 => ?_)
    refine q_iload_n (pc := 21) (dq D_B_isGone_0_ok 11 rfl) rfl 1 rfl ?_
    refine r_aald (pc := 22) 4 (dq D_B_isGone_0_ok 12 rfl) rfl rfl (fun _ => rfl) (fun x5 => ?_)
    refine q_iload_n (pc := 23) (dq D_B_isGone_0_ok 13 rfl) rfl 2 rfl ?_
    refine r_invI (Mc := M_W_hasTooth) (pc := 24) (ci := 3) (rest := []) 0 1 [.int v2] (dq D_B_isGone_0_ok 14 rfl) rfl rfl lc_W_hasTooth lv_W_hasTooth_ ml_B_143 rfl rfl rfl rfl (t_W_hasTooth x5 v2 h1) (fun r7 h6 => ?_)
    refine p_if_ne (pc := 27) 36 (dq D_B_isGone_0_ok 15 rfl) rfl ?_ ?_
    · refine q_aload_n (pc := 36) (dq D_B_isGone_0_ok 20 rfl) rfl 0 rfl ?_
      refine q_aload_n (pc := 37) (dq D_B_isGone_0_ok 21 rfl) rfl 0 rfl ?_
      refine q_getR (pc := 38) (dq D_B_isGone_0_ok 22 rfl) fa_B_23 rfl (fun x8 => ?_)
      refine q_getR (pc := 41) (dq D_B_isGone_0_ok 23 rfl) fa_B_122 rfl (fun x9 => ?_)
      refine q_iload_n (pc := 44) (dq D_B_isGone_0_ok 24 rfl) rfl 1 rfl ?_
      refine r_aald (pc := 45) 4 (dq D_B_isGone_0_ok 25 rfl) rfl rfl (fun _ => rfl) (fun x10 => ?_)
      refine q_iload_n (pc := 46) (dq D_B_isGone_0_ok 26 rfl) rfl 2 rfl ?_
      refine r_invI (Mc := M_W_lacks) (pc := 47) (ci := 3) (rest := [.ref v0]) 0 1 [.int v2] (dq D_B_isGone_0_ok 27 rfl) rfl rfl lc_W_lacks lv_W_lacks_ ml_B_146 rfl rfl rfl rfl (t_W_lacks x10 v2 h6) (fun r12 h11 => ?_)
      refine p_if_eq (pc := 50) 57 (dq D_B_isGone_0_ok 28 rfl) rfl ?_ ?_
      · refine q_ic0 (pc := 57) (dq D_B_isGone_0_ok 31 rfl) ?_
        exact T.lsub [] rfl (tb_B_isGone_58 0 v0 h11)
      · refine q_ic1 (pc := 53) (dq D_B_isGone_0_ok 29 rfl) ?_
        refine q_goto (pc := 54) 58 (dq D_B_isGone_0_ok 30 rfl) rfl ?_
        exact T.lsub [] rfl (tb_B_isGone_58 1 v0 h11)
    · refine q_aload_n (pc := 30) (dq D_B_isGone_0_ok 16 rfl) rfl 0 rfl ?_
      refine q_ic2 (pc := 31) (dq D_B_isGone_0_ok 17 rfl) ?_
      refine r_invI (Mc := M_B_refuse) (pc := 32) (ci := 0) (rest := []) 0 1 [.int 2] (dq D_B_isGone_0_ok 18 rfl) rfl rfl lc_B_refuse lv_B_refuse_ ml_B_87 rfl rfl rfl rfl (t_B_refuse v0 (2 : Int32) h6) (fun r14 h13 => ?_)
      exact r_reti (pc := 35) (dq D_B_isGone_0_ok 19 rfl) rfl
  · refine q_aload_n (pc := 8) (dq D_B_isGone_0_ok 4 rfl) rfl 0 rfl ?_
    refine q_ic1 (pc := 9) (dq D_B_isGone_0_ok 5 rfl) ?_
    refine r_invI (Mc := M_B_refuse) (pc := 10) (ci := 0) (rest := []) 0 1 [.int 1] (dq D_B_isGone_0_ok 6 rfl) rfl rfl lc_B_refuse lv_B_refuse_ ml_B_87 rfl rfl rfl rfl (t_B_refuse v0 (1 : Int32) h1) (fun r16 h15 => ?_)
    exact r_reti (pc := 13) (dq D_B_isGone_0_ok 7 rfl) rfl
noncomputable def f_B_hasOrrery (v0 : Nat) (h : Hp) : Option (Int32 × Hp) := gd (hS h v0 = some (.inl 0)) (bR (hR h v0 3) fun x1 => gd (hS h x1 = some (.inl 2)) (lt (hI h x1 2) fun x2 => if x2 ≤ 0 then (gd (zb 0) (some (0, h))) else (gd (zb 1) (some (1, h)))))
set_option maxHeartbeats 4000000 in
set_option maxRecDepth 20000 in
theorem t_B_hasOrrery {G : GG} (v0 : Nat) (h : Hp) : Mt G M_B_hasOrrery 0 [.ref v0] cI h (f_B_hasOrrery v0 h) := by
  refine Mt.ofF (by decide +kernel) rfl (Rt.z rfl rfl) ?_
  show T G M_B_hasOrrery 0 cI 0 [(0, .ref v0)] [] h _
  unfold f_B_hasOrrery
  refine q_aload_n (pc := 0) (dq D_B_hasOrrery_0_ok 0 rfl) rfl 0 rfl ?_
  refine q_getR (pc := 1) (dq D_B_hasOrrery_0_ok 1 rfl) fa_B_23 rfl (fun x1 => ?_)
  refine r_getI (pc := 4) (dq D_B_hasOrrery_0_ok 2 rfl) fa_B_106 rfl (fun x2 => ?_)
  refine p_if_le (pc := 7) 14 (dq D_B_hasOrrery_0_ok 3 rfl) rfl ?_ ?_
  · refine q_ic0 (pc := 14) (dq D_B_hasOrrery_0_ok 6 rfl) ?_
    exact r_retz (pc := 15) (dq D_B_hasOrrery_0_ok 7 rfl) rfl
  · refine q_ic1 (pc := 10) (dq D_B_hasOrrery_0_ok 4 rfl) ?_
    refine q_goto (pc := 11) 15 (dq D_B_hasOrrery_0_ok 5 rfl) rfl ?_
    exact r_retz (pc := 15) (dq D_B_hasOrrery_0_ok 7 rfl) rfl
noncomputable def b_O_isOn_36 (k2 : (Nat × Int32 × Nat × Int32) → Hp → Option (Int32 × Hp)) (v0 : Nat) (v1 : Int32) (v2 : Nat) (v3 : Int32) (h : Hp) : Option (Int32 × Hp) := k2 (v0, v1, v2, v3 + 1) h
set_option maxHeartbeats 4000000 in
set_option maxRecDepth 20000 in
theorem tb_O_isOn_36 {G : GG} {k2 : (Nat × Int32 × Nat × Int32) → Hp → Option (Int32 × Hp)} (hk2 : ∀ s h, T G M_O_isOn 1 cI 2 [(0, .ref s.1), (1, .int s.2.1), (2, .ref s.2.2.1), (3, .int s.2.2.2)] [] h (k2 s h)) (v0 : Nat) (v1 : Int32) (v2 : Nat) (v3 : Int32) (h : Hp) : T G M_O_isOn 1 cI 36 [(0, .ref v0), (1, .int v1), (2, .ref v2), (3, .int v3)] [] h (b_O_isOn_36 k2 v0 v1 v2 v3 h) := by
  unfold b_O_isOn_36
  refine q_iinc (pc := 36) (v := (1)) (ls' := [(3, .int (v3 + 1)), (0, .ref v0), (1, .int v1), (2, .ref v2)]) (dq D_O_isOn_0_ok 23 rfl) 3 rfl (by decide) rfl rfl ?_
  refine q_goto (pc := 39) 2 (dq D_O_isOn_0_ok 24 rfl) rfl ?_
  exact T.lsub [1, 2, 3, 0] rfl (hk2 (v0, v1, v2, v3 + 1) h)
noncomputable def b_O_isOn_2 (k2 : (Nat × Int32 × Nat × Int32) → Hp → Option (Int32 × Hp)) (v0 : Nat) (v1 : Int32) (v2 : Nat) (v3 : Int32) (h : Hp) : Option (Int32 × Hp) := gd (hS h v0 = some (.inl 2)) (lt (hI h v0 2) fun x1 => if x1 ≤ v3 then (gd (zb 1) (some (1, h))) else (gd (hS h v0 = some (.inl 2)) (bd (f_O_feastTooth v0 v1 v3 h) fun r3 h2 => if r3 = ((-1)) then (b_O_isOn_36 k2 v0 v1 v2 v3 h2) else (gd (ai h2 v2 0 (3 + v3)) (lt (hI h2 v2 (3 + v3).toNatClampNeg) fun x4 => if r3 = x4 then (b_O_isOn_36 k2 v0 v1 v2 v3 h2) else (gd (zb 0) (some (0, h2))))))))
set_option maxHeartbeats 4000000 in
set_option maxRecDepth 20000 in
theorem tb_O_isOn_2 {G : GG} {k2 : (Nat × Int32 × Nat × Int32) → Hp → Option (Int32 × Hp)} (hk2 : ∀ s h, T G M_O_isOn 1 cI 2 [(0, .ref s.1), (1, .int s.2.1), (2, .ref s.2.2.1), (3, .int s.2.2.2)] [] h (k2 s h)) (v0 : Nat) (v1 : Int32) (v2 : Nat) (v3 : Int32) (h : Hp) : T G M_O_isOn 1 cI 2 [(0, .ref v0), (1, .int v1), (2, .ref v2), (3, .int v3)] [] h (b_O_isOn_2 k2 v0 v1 v2 v3 h) := by
  unfold b_O_isOn_2
  refine q_iload_n (pc := 2) (dq D_O_isOn_0_ok 2 rfl) rfl 3 rfl ?_
  refine q_aload_n (pc := 3) (dq D_O_isOn_0_ok 3 rfl) rfl 0 rfl ?_
  refine r_getI (pc := 4) (dq D_O_isOn_0_ok 4 rfl) fa_O_54 rfl (fun x1 => ?_)
  refine q_ic_ge (pc := 7) 42 (dq D_O_isOn_0_ok 5 rfl) rfl ?_ ?_
  · refine q_ic1 (pc := 42) (dq D_O_isOn_0_ok 25 rfl) ?_
    exact r_retz (pc := 43) (dq D_O_isOn_0_ok 26 rfl) rfl
  · refine q_aload_n (pc := 10) (dq D_O_isOn_0_ok 6 rfl) rfl 0 rfl ?_
    refine q_iload_n (pc := 11) (dq D_O_isOn_0_ok 7 rfl) rfl 1 rfl ?_
    refine q_iload_n (pc := 12) (dq D_O_isOn_0_ok 8 rfl) rfl 3 rfl ?_
    refine r_invI (Mc := M_O_feastTooth) (pc := 13) (ci := 2) (rest := []) 0 2 [.int v1, .int v3] (dq D_O_isOn_0_ok 9 rfl) rfl rfl lc_O_feastTooth lv_O_feastTooth_ ml_O_75 rfl rfl rfl rfl (t_O_feastTooth v0 v1 v3 h) (fun r3 h2 => ?_)
    refine q_istore (pc := 16) (ls' := [(4, .int r3), (0, .ref v0), (1, .int v1), (2, .ref v2), (3, .int v3)]) (dq D_O_isOn_0_ok 10 rfl) rfl rfl ?_
    refine q_iload (pc := 18) (dq D_O_isOn_0_ok 11 rfl) 0 rfl ?_
    refine q_icm1 (pc := 20) (dq D_O_isOn_0_ok 12 rfl) ?_
    refine q_ic_eq (pc := 21) 36 (dq D_O_isOn_0_ok 13 rfl) rfl ?_ ?_
    · exact T.lsub [1, 2, 3, 4] rfl (tb_O_isOn_36 hk2 v0 v1 v2 v3 h2)
    · refine q_iload (pc := 24) (dq D_O_isOn_0_ok 14 rfl) 0 rfl ?_
      refine q_aload_n (pc := 26) (dq D_O_isOn_0_ok 15 rfl) rfl 3 rfl ?_
      refine q_ic3 (pc := 27) (dq D_O_isOn_0_ok 16 rfl) ?_
      refine q_iload_n (pc := 28) (dq D_O_isOn_0_ok 17 rfl) rfl 4 rfl ?_
      refine q_iadd (pc := 29) (dq D_O_isOn_0_ok 18 rfl) ?_
      refine r_iald (pc := 30) (dq D_O_isOn_0_ok 19 rfl) (fun x4 => ?_)
      refine q_ic_eq (pc := 31) 36 (dq D_O_isOn_0_ok 20 rfl) rfl ?_ ?_
      · exact T.lsub [1, 2, 3, 4] rfl (tb_O_isOn_36 hk2 v0 v1 v2 v3 h2)
      · refine q_ic0 (pc := 34) (dq D_O_isOn_0_ok 21 rfl) ?_
        exact r_retz (pc := 35) (dq D_O_isOn_0_ok 22 rfl) rfl
noncomputable def l_O_isOn_2 : Nat → (Nat × Int32 × Nat × Int32) → Hp → Option (Int32 × Hp) := lp (fun k2 s h => b_O_isOn_2 k2 s.1 s.2.1 s.2.2.1 s.2.2.2 h)
set_option maxHeartbeats 4000000 in
set_option maxRecDepth 20000 in
theorem tl_O_isOn_2 {G : GG} (n : Nat) (s : Nat × Int32 × Nat × Int32) (h : Hp) : T G M_O_isOn 1 cI 2 [(0, .ref s.1), (1, .int s.2.1), (2, .ref s.2.2.1), (3, .int s.2.2.2)] [] h (l_O_isOn_2 n s h) :=
  T.loop (lsOf := fun s => [(0, .ref s.1), (1, .int s.2.1), (2, .ref s.2.2.1), (3, .int s.2.2.2)]) (fun k2 hk2 s h => tb_O_isOn_2 hk2 s.1 s.2.1 s.2.2.1 s.2.2.2 h) n s h
noncomputable def f_O_isOn (v0 : Nat) (v1 : Int32) (v2 : Nat) (h : Hp) : Option (Int32 × Hp) := lt (0 : Int32) fun y1 => l_O_isOn_2 FU (v0, v1, v2, y1) h
set_option maxHeartbeats 4000000 in
set_option maxRecDepth 20000 in
theorem t_O_isOn {G : GG} (v0 : Nat) (v1 : Int32) (v2 : Nat) (h : Hp) : Mt G M_O_isOn 1 [.ref v0, .int v1, .ref v2] cI h (f_O_isOn v0 v1 v2 h) := by
  refine Mt.ofF (by decide +kernel) rfl (Rt.z rfl rfl) ?_
  show T G M_O_isOn 1 cI 0 [(0, .ref v0), (1, .int v1), (2, .ref v2)] [] h _
  unfold f_O_isOn
  refine q_ic0 (pc := 0) (dq D_O_isOn_0_ok 0 rfl) ?_
  refine r_nmI (fun y1 => ?_)
  refine q_istore_n (pc := 1) (ls' := [(3, .int y1), (0, .ref v0), (1, .int v1), (2, .ref v2)]) (dq D_O_isOn_0_ok 1 rfl) rfl rfl rfl ?_
  exact T.lsub [1, 2, 3, 0] rfl (tl_O_isOn_2 FU (v0, v1, v2, y1) h)
noncomputable def b_O_feastsOn_27 (k4 : (Nat × Nat × Int32 × Int32) → Hp → Option (Int32 × Hp)) (v0 : Nat) (v1 : Nat) (v2 : Int32) (v3 : Int32) (h : Hp) : Option (Int32 × Hp) := k4 (v0, v1, v2, v3 + 1) h
set_option maxHeartbeats 4000000 in
set_option maxRecDepth 20000 in
theorem tb_O_feastsOn_27 {G : GG} {k4 : (Nat × Nat × Int32 × Int32) → Hp → Option (Int32 × Hp)} (hk4 : ∀ s h, T G M_O_feastsOn 2 cI 4 [(0, .ref s.1), (1, .ref s.2.1), (2, .int s.2.2.1), (3, .int s.2.2.2)] [] h (k4 s h)) (v0 : Nat) (v1 : Nat) (v2 : Int32) (v3 : Int32) (h : Hp) : T G M_O_feastsOn 2 cI 27 [(0, .ref v0), (1, .ref v1), (2, .int v2), (3, .int v3)] [] h (b_O_feastsOn_27 k4 v0 v1 v2 v3 h) := by
  unfold b_O_feastsOn_27
  refine q_iinc (pc := 27) (v := (1)) (ls' := [(3, .int (v3 + 1)), (0, .ref v0), (1, .ref v1), (2, .int v2)]) (dq D_O_feastsOn_0_ok 19 rfl) 3 rfl (by decide) rfl rfl ?_
  refine q_goto (pc := 30) 4 (dq D_O_feastsOn_0_ok 20 rfl) rfl ?_
  exact T.lsub [1, 2, 3, 0] rfl (hk4 (v0, v1, v2, v3 + 1) h)
noncomputable def b_O_feastsOn_4 (k4 : (Nat × Nat × Int32 × Int32) → Hp → Option (Int32 × Hp)) (v0 : Nat) (v1 : Nat) (v2 : Int32) (v3 : Int32) (h : Hp) : Option (Int32 × Hp) := gd (hS h v0 = some (.inl 2)) (lt (hI h v0 4) fun x1 => if x1 ≤ v3 then (some (v2, h)) else (gd (hS h v0 = some (.inl 2)) (bd (f_O_isOn v0 v3 v1 h) fun r3 h2 => if r3 = 0 then (b_O_feastsOn_27 k4 v0 v1 v2 v3 h2) else (lt (v2 ||| ((1 : Int32) <<< (v3 &&& 31)) : Int32) fun y4 => b_O_feastsOn_27 k4 v0 v1 y4 v3 h2))))
set_option maxHeartbeats 4000000 in
set_option maxRecDepth 20000 in
theorem tb_O_feastsOn_4 {G : GG} {k4 : (Nat × Nat × Int32 × Int32) → Hp → Option (Int32 × Hp)} (hk4 : ∀ s h, T G M_O_feastsOn 2 cI 4 [(0, .ref s.1), (1, .ref s.2.1), (2, .int s.2.2.1), (3, .int s.2.2.2)] [] h (k4 s h)) (v0 : Nat) (v1 : Nat) (v2 : Int32) (v3 : Int32) (h : Hp) : T G M_O_feastsOn 2 cI 4 [(0, .ref v0), (1, .ref v1), (2, .int v2), (3, .int v3)] [] h (b_O_feastsOn_4 k4 v0 v1 v2 v3 h) := by
  unfold b_O_feastsOn_4
  refine q_iload_n (pc := 4) (dq D_O_feastsOn_0_ok 4 rfl) rfl 3 rfl ?_
  refine q_aload_n (pc := 5) (dq D_O_feastsOn_0_ok 5 rfl) rfl 0 rfl ?_
  refine r_getI (pc := 6) (dq D_O_feastsOn_0_ok 6 rfl) fa_O_57 rfl (fun x1 => ?_)
  refine q_ic_ge (pc := 9) 33 (dq D_O_feastsOn_0_ok 7 rfl) rfl ?_ ?_
  · refine q_iload_n (pc := 33) (dq D_O_feastsOn_0_ok 21 rfl) rfl 2 rfl ?_
    exact r_reti (pc := 34) (dq D_O_feastsOn_0_ok 22 rfl) rfl
  · refine q_aload_n (pc := 12) (dq D_O_feastsOn_0_ok 8 rfl) rfl 0 rfl ?_
    refine q_iload_n (pc := 13) (dq D_O_feastsOn_0_ok 9 rfl) rfl 3 rfl ?_
    refine q_aload_n (pc := 14) (dq D_O_feastsOn_0_ok 10 rfl) rfl 1 rfl ?_
    refine r_invI (Mc := M_O_isOn) (pc := 15) (ci := 2) (rest := []) 1 2 [.int v3, .ref v1] (dq D_O_feastsOn_0_ok 11 rfl) rfl rfl lc_O_isOn lv_O_isOn_ ml_O_79 rfl rfl rfl rfl (t_O_isOn v0 v3 v1 h) (fun r3 h2 => ?_)
    refine p_if_eq (pc := 18) 27 (dq D_O_feastsOn_0_ok 12 rfl) rfl ?_ ?_
    · exact T.lsub [0, 1, 2, 3] rfl (tb_O_feastsOn_27 hk4 v0 v1 v2 v3 h2)
    · refine q_iload_n (pc := 21) (dq D_O_feastsOn_0_ok 13 rfl) rfl 2 rfl ?_
      refine q_ic1 (pc := 22) (dq D_O_feastsOn_0_ok 14 rfl) ?_
      refine q_iload_n (pc := 23) (dq D_O_feastsOn_0_ok 15 rfl) rfl 3 rfl ?_
      refine q_ishl (pc := 24) (dq D_O_feastsOn_0_ok 16 rfl) ?_
      refine q_ior (pc := 25) (dq D_O_feastsOn_0_ok 17 rfl) ?_
      refine r_nmI (fun y4 => ?_)
      refine q_istore_n (pc := 26) (ls' := [(2, .int y4), (0, .ref v0), (1, .ref v1), (3, .int v3)]) (dq D_O_feastsOn_0_ok 18 rfl) rfl rfl rfl ?_
      exact T.lsub [1, 2, 0, 3] rfl (tb_O_feastsOn_27 hk4 v0 v1 y4 v3 h2)
noncomputable def l_O_feastsOn_4 : Nat → (Nat × Nat × Int32 × Int32) → Hp → Option (Int32 × Hp) := lp (fun k4 s h => b_O_feastsOn_4 k4 s.1 s.2.1 s.2.2.1 s.2.2.2 h)
set_option maxHeartbeats 4000000 in
set_option maxRecDepth 20000 in
theorem tl_O_feastsOn_4 {G : GG} (n : Nat) (s : Nat × Nat × Int32 × Int32) (h : Hp) : T G M_O_feastsOn 2 cI 4 [(0, .ref s.1), (1, .ref s.2.1), (2, .int s.2.2.1), (3, .int s.2.2.2)] [] h (l_O_feastsOn_4 n s h) :=
  T.loop (lsOf := fun s => [(0, .ref s.1), (1, .ref s.2.1), (2, .int s.2.2.1), (3, .int s.2.2.2)]) (fun k4 hk4 s h => tb_O_feastsOn_4 hk4 s.1 s.2.1 s.2.2.1 s.2.2.2 h) n s h
noncomputable def f_O_feastsOn (v0 : Nat) (v1 : Nat) (h : Hp) : Option (Int32 × Hp) := lt (0 : Int32) fun y1 => lt (0 : Int32) fun y2 => l_O_feastsOn_4 FU (v0, v1, y1, y2) h
set_option maxHeartbeats 4000000 in
set_option maxRecDepth 20000 in
theorem t_O_feastsOn {G : GG} (v0 : Nat) (v1 : Nat) (h : Hp) : Mt G M_O_feastsOn 2 [.ref v0, .ref v1] cI h (f_O_feastsOn v0 v1 h) := by
  refine Mt.ofF (by decide +kernel) rfl (Rt.i rfl rfl) ?_
  show T G M_O_feastsOn 2 cI 0 [(0, .ref v0), (1, .ref v1)] [] h _
  unfold f_O_feastsOn
  refine q_ic0 (pc := 0) (dq D_O_feastsOn_0_ok 0 rfl) ?_
  refine r_nmI (fun y1 => ?_)
  refine q_istore_n (pc := 1) (ls' := [(2, .int y1), (0, .ref v0), (1, .ref v1)]) (dq D_O_feastsOn_0_ok 1 rfl) rfl rfl rfl ?_
  refine q_ic0 (pc := 2) (dq D_O_feastsOn_0_ok 2 rfl) ?_
  refine r_nmI (fun y2 => ?_)
  refine q_istore_n (pc := 3) (ls' := [(3, .int y2), (2, .int y1), (0, .ref v0), (1, .ref v1)]) (dq D_O_feastsOn_0_ok 3 rfl) rfl rfl rfl ?_
  exact T.lsub [2, 3, 1, 0] rfl (tl_O_feastsOn_4 FU (v0, v1, y1, y2) h)
noncomputable def b_B_now_16 (v0 : Nat) (h : Hp) : Option (Int32 × Hp) := gd (hS h v0 = some (.inl 0)) (bd (f_B_refuse v0 (1 : Int32) h) fun r2 h1 => some (r2, h1))
set_option maxHeartbeats 4000000 in
set_option maxRecDepth 20000 in
theorem tb_B_now_16 {G : GG} (v0 : Nat) (h : Hp) : T G M_B_now 3 cI 16 [(0, .ref v0)] [] h (b_B_now_16 v0 h) := by
  unfold b_B_now_16
  refine q_aload_n (pc := 16) (dq D_B_now_0_ok 8 rfl) rfl 0 rfl ?_
  refine q_ic1 (pc := 17) (dq D_B_now_0_ok 9 rfl) ?_
  refine r_invI (Mc := M_B_refuse) (pc := 18) (ci := 0) (rest := []) 0 1 [.int 1] (dq D_B_now_0_ok 10 rfl) rfl rfl lc_B_refuse lv_B_refuse_ ml_B_87 rfl rfl rfl rfl (t_B_refuse v0 (1 : Int32) h) (fun r2 h1 => ?_)
  exact r_reti (pc := 21) (dq D_B_now_0_ok 11 rfl) rfl
noncomputable def f_B_now (v0 : Nat) (v1 : Int32) (h : Hp) : Option (Int32 × Hp) := gd (hS h v0 = some (.inl 0)) (bd (f_B_hasOrrery v0 h) fun r2 h1 => if r2 = 0 then (b_B_now_16 v0 h1) else (if v1 < 0 then (b_B_now_16 v0 h1) else (if v1 ≤ 3 then (if v1 = 0 then (gd (hS h1 v0 = some (.inl 0)) (bR (hR h1 v0 5) fun x3 => gd (ai h1 x3 0 0) (lt (hI h1 x3 (0 : Int32).toNatClampNeg) fun x4 => gd (hS h1 v0 = some (.inl 0)) (bd (f_B_grant v0 x4 h1) fun r6 h5 => some (r6, h5))))) else (if v1 = 1 then (gd (hS h1 v0 = some (.inl 0)) (bR (hR h1 v0 5) fun x7 => gd (ai h1 x7 0 1) (lt (hI h1 x7 (1 : Int32).toNatClampNeg) fun x8 => gd (hS h1 v0 = some (.inl 0)) (bd (f_B_grant v0 x8 h1) fun r10 h9 => some (r10, h9))))) else (if v1 = 2 then (gd (hS h1 v0 = some (.inl 0)) (bR (hR h1 v0 3) fun x11 => gd (hS h1 v0 = some (.inl 0)) (bR (hR h1 v0 5) fun x12 => gd (hS h1 x11 = some (.inl 2)) (bd (f_O_feastsOn x11 x12 h1) fun r14 h13 => gd (hS h13 v0 = some (.inl 0)) (bd (f_B_grant v0 r14 h13) fun r16 h15 => some (r16, h15)))))) else (gd (hS h1 v0 = some (.inl 0)) (bR (hR h1 v0 5) fun x17 => gd (ai h1 x17 0 2) (lt (hI h1 x17 (2 : Int32).toNatClampNeg) fun x18 => gd (hS h1 v0 = some (.inl 0)) (bd (f_B_grant v0 x18 h1) fun r20 h19 => some (r20, h19)))))))) else (b_B_now_16 v0 h1))))
set_option maxHeartbeats 4000000 in
set_option maxRecDepth 20000 in
theorem t_B_now {G : GG} (v0 : Nat) (v1 : Int32) (h : Hp) : Mt G M_B_now 3 [.ref v0, .int v1] cI h (f_B_now v0 v1 h) := by
  refine Mt.ofF (by decide +kernel) rfl (Rt.i rfl rfl) ?_
  show T G M_B_now 3 cI 0 [(0, .ref v0), (1, .int v1)] [] h _
  unfold f_B_now
  refine q_aload_n (pc := 0) (dq D_B_now_0_ok 0 rfl) rfl 0 rfl ?_
  refine r_invI (Mc := M_B_hasOrrery) (pc := 1) (ci := 0) (rest := []) 0 0 [] (dq D_B_now_0_ok 1 rfl) rfl rfl lc_B_hasOrrery lv_B_hasOrrery_ ml_B_149 rfl rfl rfl rfl (t_B_hasOrrery v0 h) (fun r2 h1 => ?_)
  refine p_if_eq (pc := 4) 16 (dq D_B_now_0_ok 2 rfl) rfl ?_ ?_
  · exact T.lsub [0] rfl (tb_B_now_16 v0 h1)
  · refine q_iload_n (pc := 7) (dq D_B_now_0_ok 3 rfl) rfl 1 rfl ?_
    refine p_if_lt (pc := 8) 16 (dq D_B_now_0_ok 4 rfl) rfl ?_ ?_
    · exact T.lsub [0] rfl (tb_B_now_16 v0 h1)
    · refine q_iload_n (pc := 11) (dq D_B_now_0_ok 5 rfl) rfl 1 rfl ?_
      refine q_ic3 (pc := 12) (dq D_B_now_0_ok 6 rfl) ?_
      refine q_ic_le (pc := 13) 22 (dq D_B_now_0_ok 7 rfl) rfl ?_ ?_
      · refine q_iload_n (pc := 22) (dq D_B_now_0_ok 12 rfl) rfl 1 rfl ?_
        refine T.ite (fun e => ?_) (fun n0 => ?_)
        · refine r_tin (pc := 23) (c := 0) 48 (dq D_B_now_0_ok 13 rfl) e (by decide) (by decide) rfl rfl ?_
          refine q_aload_n (pc := 48) (dq D_B_now_0_ok 14 rfl) rfl 0 rfl ?_
          refine q_aload_n (pc := 49) (dq D_B_now_0_ok 15 rfl) rfl 0 rfl ?_
          refine q_getR (pc := 50) (dq D_B_now_0_ok 16 rfl) fa_B_30 rfl (fun x3 => ?_)
          refine q_ic0 (pc := 53) (dq D_B_now_0_ok 17 rfl) ?_
          refine r_iald (pc := 54) (dq D_B_now_0_ok 18 rfl) (fun x4 => ?_)
          refine r_invI (Mc := M_B_grant) (pc := 55) (ci := 0) (rest := []) 0 1 [.int x4] (dq D_B_now_0_ok 19 rfl) rfl rfl lc_B_grant lv_B_grant_ ml_B_109 rfl rfl rfl rfl (t_B_grant v0 x4 h1) (fun r6 h5 => ?_)
          exact r_reti (pc := 58) (dq D_B_now_0_ok 20 rfl) rfl
        refine T.ite (fun e => ?_) (fun n1 => ?_)
        · refine r_tin (pc := 23) (c := 1) 59 (dq D_B_now_0_ok 13 rfl) e (by decide) (by decide) rfl rfl ?_
          refine q_aload_n (pc := 59) (dq D_B_now_0_ok 21 rfl) rfl 0 rfl ?_
          refine q_aload_n (pc := 60) (dq D_B_now_0_ok 22 rfl) rfl 0 rfl ?_
          refine q_getR (pc := 61) (dq D_B_now_0_ok 23 rfl) fa_B_30 rfl (fun x7 => ?_)
          refine q_ic1 (pc := 64) (dq D_B_now_0_ok 24 rfl) ?_
          refine r_iald (pc := 65) (dq D_B_now_0_ok 25 rfl) (fun x8 => ?_)
          refine r_invI (Mc := M_B_grant) (pc := 66) (ci := 0) (rest := []) 0 1 [.int x8] (dq D_B_now_0_ok 26 rfl) rfl rfl lc_B_grant lv_B_grant_ ml_B_109 rfl rfl rfl rfl (t_B_grant v0 x8 h1) (fun r10 h9 => ?_)
          exact r_reti (pc := 69) (dq D_B_now_0_ok 27 rfl) rfl
        refine T.ite (fun e => ?_) (fun n2 => ?_)
        · refine r_tin (pc := 23) (c := 2) 70 (dq D_B_now_0_ok 13 rfl) e (by decide) (by decide) rfl rfl ?_
          refine q_aload_n (pc := 70) (dq D_B_now_0_ok 28 rfl) rfl 0 rfl ?_
          refine q_aload_n (pc := 71) (dq D_B_now_0_ok 29 rfl) rfl 0 rfl ?_
          refine q_getR (pc := 72) (dq D_B_now_0_ok 30 rfl) fa_B_23 rfl (fun x11 => ?_)
          refine q_aload_n (pc := 75) (dq D_B_now_0_ok 31 rfl) rfl 0 rfl ?_
          refine q_getR (pc := 76) (dq D_B_now_0_ok 32 rfl) fa_B_30 rfl (fun x12 => ?_)
          refine r_invI (Mc := M_O_feastsOn) (pc := 79) (ci := 2) (rest := [.ref v0]) 2 1 [.ref x12] (dq D_B_now_0_ok 33 rfl) rfl rfl lc_O_feastsOn lv_O_feastsOn_ ml_B_153 rfl rfl rfl rfl (t_O_feastsOn x11 x12 h1) (fun r14 h13 => ?_)
          refine r_invI (Mc := M_B_grant) (pc := 82) (ci := 0) (rest := []) 0 1 [.int r14] (dq D_B_now_0_ok 34 rfl) rfl rfl lc_B_grant lv_B_grant_ ml_B_109 rfl rfl rfl rfl (t_B_grant v0 r14 h13) (fun r16 h15 => ?_)
          exact r_reti (pc := 85) (dq D_B_now_0_ok 35 rfl) rfl
        refine r_tout (pc := 23) 86 (dq D_B_now_0_ok 13 rfl) (by have e0 := int_ne (z := 0) n0 (by decide); have e1 := int_ne (z := 1) n1 (by decide); have e2 := int_ne (z := 2) n2 (by decide); omega) rfl ?_
        refine q_aload_n (pc := 86) (dq D_B_now_0_ok 36 rfl) rfl 0 rfl ?_
        refine q_aload_n (pc := 87) (dq D_B_now_0_ok 37 rfl) rfl 0 rfl ?_
        refine q_getR (pc := 88) (dq D_B_now_0_ok 38 rfl) fa_B_30 rfl (fun x17 => ?_)
        refine q_ic2 (pc := 91) (dq D_B_now_0_ok 39 rfl) ?_
        refine r_iald (pc := 92) (dq D_B_now_0_ok 40 rfl) (fun x18 => ?_)
        refine r_invI (Mc := M_B_grant) (pc := 93) (ci := 0) (rest := []) 0 1 [.int x18] (dq D_B_now_0_ok 41 rfl) rfl rfl lc_B_grant lv_B_grant_ ml_B_109 rfl rfl rfl rfl (t_B_grant v0 x18 h1) (fun r20 h19 => ?_)
        exact r_reti (pc := 96) (dq D_B_now_0_ok 42 rfl) rfl
      · exact T.lsub [0] rfl (tb_B_now_16 v0 h1)
noncomputable def b_B_work_24 (v0 : Nat) (h : Hp) : Option (Int32 × Hp) := gd (hS h v0 = some (.inl 0)) (bd (f_B_refuse v0 (1 : Int32) h) fun r2 h1 => some (r2, h1))
set_option maxHeartbeats 4000000 in
set_option maxRecDepth 20000 in
theorem tb_B_work_24 {G : GG} (v0 : Nat) (h : Hp) : T G M_B_work 1 cI 24 [(0, .ref v0)] [] h (b_B_work_24 v0 h) := by
  unfold b_B_work_24
  refine q_aload_n (pc := 24) (dq D_B_work_0_ok 12 rfl) rfl 0 rfl ?_
  refine q_ic1 (pc := 25) (dq D_B_work_0_ok 13 rfl) ?_
  refine r_invI (Mc := M_B_refuse) (pc := 26) (ci := 0) (rest := []) 0 1 [.int 1] (dq D_B_work_0_ok 14 rfl) rfl rfl lc_B_refuse lv_B_refuse_ ml_B_87 rfl rfl rfl rfl (t_B_refuse v0 (1 : Int32) h) (fun r2 h1 => ?_)
  exact r_reti (pc := 29) (dq D_B_work_0_ok 15 rfl) rfl
noncomputable def f_B_work (v0 : Nat) (v1 : Int32) (v2 : Int32) (h : Hp) : Option (Int32 × Hp) := if v1 < 0 then (b_B_work_24 v0 h) else (gd (hS h v0 = some (.inl 0)) (bR (hR h v0 3) fun x1 => gd (hS h x1 = some (.inl 2)) (lt (hI h x1 6) fun x2 => if x2 ≤ v1 then (b_B_work_24 v0 h) else (if v2 < 0 then (b_B_work_24 v0 h) else (if v2 ≤ 2 then (if v2 = 0 then (gd (hS h v0 = some (.inl 0)) (bR (hR h v0 3) fun x3 => gd (hS h x3 = some (.inl 2)) (bR (hR h x3 7) fun x4 => gd (ai h x4 0 v1) (lt (hI h x4 v1.toNatClampNeg) fun x5 => gd (hS h v0 = some (.inl 0)) (bd (f_B_grant v0 x5 h) fun r7 h6 => some (r7, h6)))))) else (if v2 = 1 then (gd (hS h v0 = some (.inl 0)) (bR (hR h v0 3) fun x8 => gd (hS h x8 = some (.inl 2)) (bR (hR h x8 8) fun x9 => gd (ai h x9 0 v1) (lt (hI h x9 v1.toNatClampNeg) fun x10 => gd (hS h v0 = some (.inl 0)) (bd (f_B_grant v0 x10 h) fun r12 h11 => some (r12, h11)))))) else (gd (hS h v0 = some (.inl 0)) (bR (hR h v0 3) fun x13 => gd (hS h x13 = some (.inl 2)) (bR (hR h x13 9) fun x14 => gd (ai h x14 0 v1) (lt (hI h x14 v1.toNatClampNeg) fun x15 => gd (hS h v0 = some (.inl 0)) (bd (f_B_grant v0 x15 h) fun r17 h16 => some (r17, h16)))))))) else (b_B_work_24 v0 h))))))
set_option maxHeartbeats 4000000 in
set_option maxRecDepth 20000 in
theorem t_B_work {G : GG} (v0 : Nat) (v1 : Int32) (v2 : Int32) (h : Hp) : Mt G M_B_work 1 [.ref v0, .int v1, .int v2] cI h (f_B_work v0 v1 v2 h) := by
  refine Mt.ofF (by decide +kernel) rfl (Rt.i rfl rfl) ?_
  show T G M_B_work 1 cI 0 [(0, .ref v0), (1, .int v1), (2, .int v2)] [] h _
  unfold f_B_work
  refine q_iload_n (pc := 0) (dq D_B_work_0_ok 0 rfl) rfl 1 rfl ?_
  refine p_if_lt (pc := 1) 24 (dq D_B_work_0_ok 1 rfl) rfl ?_ ?_
  · exact T.lsub [0] rfl (tb_B_work_24 v0 h)
  · refine q_iload_n (pc := 4) (dq D_B_work_0_ok 2 rfl) rfl 1 rfl ?_
    refine q_aload_n (pc := 5) (dq D_B_work_0_ok 3 rfl) rfl 0 rfl ?_
    refine q_getR (pc := 6) (dq D_B_work_0_ok 4 rfl) fa_B_23 rfl (fun x1 => ?_)
    refine r_getI (pc := 9) (dq D_B_work_0_ok 5 rfl) fa_B_157 rfl (fun x2 => ?_)
    refine q_ic_ge (pc := 12) 24 (dq D_B_work_0_ok 6 rfl) rfl ?_ ?_
    · exact T.lsub [0] rfl (tb_B_work_24 v0 h)
    · refine q_iload_n (pc := 15) (dq D_B_work_0_ok 7 rfl) rfl 2 rfl ?_
      refine p_if_lt (pc := 16) 24 (dq D_B_work_0_ok 8 rfl) rfl ?_ ?_
      · exact T.lsub [0] rfl (tb_B_work_24 v0 h)
      · refine q_iload_n (pc := 19) (dq D_B_work_0_ok 9 rfl) rfl 2 rfl ?_
        refine q_ic2 (pc := 20) (dq D_B_work_0_ok 10 rfl) ?_
        refine q_ic_le (pc := 21) 30 (dq D_B_work_0_ok 11 rfl) rfl ?_ ?_
        · refine q_iload_n (pc := 30) (dq D_B_work_0_ok 16 rfl) rfl 2 rfl ?_
          refine T.ite (fun e => ?_) (fun n0 => ?_)
          · refine r_look (pc := 31) (off := 25) 56 (dq D_B_work_0_ok 17 rfl) rfl (by rw [e]; decide) rfl ?_
            refine q_aload_n (pc := 56) (dq D_B_work_0_ok 18 rfl) rfl 0 rfl ?_
            refine q_aload_n (pc := 57) (dq D_B_work_0_ok 19 rfl) rfl 0 rfl ?_
            refine q_getR (pc := 58) (dq D_B_work_0_ok 20 rfl) fa_B_23 rfl (fun x3 => ?_)
            refine q_getR (pc := 61) (dq D_B_work_0_ok 21 rfl) fa_B_160 rfl (fun x4 => ?_)
            refine q_iload_n (pc := 64) (dq D_B_work_0_ok 22 rfl) rfl 1 rfl ?_
            refine r_iald (pc := 65) (dq D_B_work_0_ok 23 rfl) (fun x5 => ?_)
            refine r_invI (Mc := M_B_grant) (pc := 66) (ci := 0) (rest := []) 0 1 [.int x5] (dq D_B_work_0_ok 24 rfl) rfl rfl lc_B_grant lv_B_grant_ ml_B_109 rfl rfl rfl rfl (t_B_grant v0 x5 h) (fun r7 h6 => ?_)
            exact r_reti (pc := 69) (dq D_B_work_0_ok 25 rfl) rfl
          refine T.ite (fun e => ?_) (fun n1 => ?_)
          · refine r_look (pc := 31) (off := 39) 70 (dq D_B_work_0_ok 17 rfl) rfl (by rw [e]; decide) rfl ?_
            refine q_aload_n (pc := 70) (dq D_B_work_0_ok 26 rfl) rfl 0 rfl ?_
            refine q_aload_n (pc := 71) (dq D_B_work_0_ok 27 rfl) rfl 0 rfl ?_
            refine q_getR (pc := 72) (dq D_B_work_0_ok 28 rfl) fa_B_23 rfl (fun x8 => ?_)
            refine q_getR (pc := 75) (dq D_B_work_0_ok 29 rfl) fa_B_163 rfl (fun x9 => ?_)
            refine q_iload_n (pc := 78) (dq D_B_work_0_ok 30 rfl) rfl 1 rfl ?_
            refine r_iald (pc := 79) (dq D_B_work_0_ok 31 rfl) (fun x10 => ?_)
            refine r_invI (Mc := M_B_grant) (pc := 80) (ci := 0) (rest := []) 0 1 [.int x10] (dq D_B_work_0_ok 32 rfl) rfl rfl lc_B_grant lv_B_grant_ ml_B_109 rfl rfl rfl rfl (t_B_grant v0 x10 h) (fun r12 h11 => ?_)
            exact r_reti (pc := 83) (dq D_B_work_0_ok 33 rfl) rfl
          refine r_look (pc := 31) (off := 53) 84 (dq D_B_work_0_ok 17 rfl) rfl (by have e0 := int_ne (z := 0) n0 (by decide); have e1 := int_ne (z := 1) n1 (by decide); simp_all [Op.lookupswitch.offset]; (repeat' split) <;> omega) rfl ?_
          refine q_aload_n (pc := 84) (dq D_B_work_0_ok 34 rfl) rfl 0 rfl ?_
          refine q_aload_n (pc := 85) (dq D_B_work_0_ok 35 rfl) rfl 0 rfl ?_
          refine q_getR (pc := 86) (dq D_B_work_0_ok 36 rfl) fa_B_23 rfl (fun x13 => ?_)
          refine q_getR (pc := 89) (dq D_B_work_0_ok 37 rfl) fa_B_166 rfl (fun x14 => ?_)
          refine q_iload_n (pc := 92) (dq D_B_work_0_ok 38 rfl) rfl 1 rfl ?_
          refine r_iald (pc := 93) (dq D_B_work_0_ok 39 rfl) (fun x15 => ?_)
          refine r_invI (Mc := M_B_grant) (pc := 94) (ci := 0) (rest := []) 0 1 [.int x15] (dq D_B_work_0_ok 40 rfl) rfl rfl lc_B_grant lv_B_grant_ ml_B_109 rfl rfl rfl rfl (t_B_grant v0 x15 h) (fun r17 h16 => ?_)
          exact r_reti (pc := 97) (dq D_B_work_0_ok 41 rfl) rfl
        · exact T.lsub [0] rfl (tb_B_work_24 v0 h)
noncomputable def f_W_way (v0 : Nat) (h : Hp) : Option (Int32 × Hp) := gd (hS h v0 = some (.inl 3)) (lt (hI h v0 0) fun x1 => if x1 = 1 then (some ((-1), h)) else (some (1, h)))
set_option maxHeartbeats 4000000 in
set_option maxRecDepth 20000 in
theorem t_W_way {G : GG} (v0 : Nat) (h : Hp) : Mt G M_W_way 0 [.ref v0] cI h (f_W_way v0 h) := by
  refine Mt.ofF (by decide +kernel) rfl (Rt.i rfl rfl) ?_
  show T G M_W_way 0 cI 0 [(0, .ref v0)] [] h _
  unfold f_W_way
  refine q_aload_n (pc := 0) (dq D_W_way_0_ok 0 rfl) rfl 0 rfl ?_
  refine r_getI (pc := 1) (dq D_W_way_0_ok 1 rfl) fa_W_9 rfl (fun x1 => ?_)
  refine q_ic1 (pc := 4) (dq D_W_way_0_ok 2 rfl) ?_
  refine q_ic_ne (pc := 5) 12 (dq D_W_way_0_ok 3 rfl) rfl ?_ ?_
  · refine q_ic1 (pc := 12) (dq D_W_way_0_ok 6 rfl) ?_
    exact r_reti (pc := 13) (dq D_W_way_0_ok 7 rfl) rfl
  · refine q_icm1 (pc := 8) (dq D_W_way_0_ok 4 rfl) ?_
    refine q_goto (pc := 9) 13 (dq D_W_way_0_ok 5 rfl) rfl ?_
    exact r_reti (pc := 13) (dq D_W_way_0_ok 7 rfl) rfl
