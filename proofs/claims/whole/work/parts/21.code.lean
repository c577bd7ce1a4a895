noncomputable def b_R_readWhole_44 (v0 : Nat) (v3 : Int32) (h : Hp) : Option (Int32 × Hp) := gd (hS h v0 = some (.inl 1)) (bd (f_R_step v0 h) fun _ h1 => some (v3, h1))
set_option maxHeartbeats 4000000 in
set_option maxRecDepth 20000 in
theorem tb_R_readWhole_44 {G : GG} (v0 : Nat) (v3 : Int32) (h : Hp) : T G M_R_readWhole 2 cI 44 [(0, .ref v0), (3, .int v3)] [] h (b_R_readWhole_44 v0 v3 h) := by
  unfold b_R_readWhole_44
  refine q_aload_n (pc := 44) (dq D_R_readWhole_0_ok 24 rfl) rfl 0 rfl ?_
  refine r_invU (Mc := M_R_step) (pc := 45) (ci := 1) (rest := []) 1 0 [] (dq D_R_readWhole_0_ok 25 rfl) rfl rfl lc_R_step lv_R_step_ ml_R_61 rfl rfl rfl rfl (t_R_step v0 h) (fun _ h1 => ?_)
  refine q_iload_n (pc := 48) (dq D_R_readWhole_0_ok 26 rfl) rfl 1 rfl ?_
  exact r_reti (pc := 49) (dq D_R_readWhole_0_ok 27 rfl) rfl
noncomputable def b_R_readWhole_35 (v0 : Nat) (v3 : Int32) (h : Hp) : Option (Int32 × Hp) := gd (hS h v0 = some (.inl 1)) (lt (hI h v0 6) fun x1 => gd (hS h v0 = some (.inl 1)) (bd (f_R_fail v0 (4 : Int32) x1 h) fun _ h2 => b_R_readWhole_44 v0 v3 h2))
set_option maxHeartbeats 4000000 in
set_option maxRecDepth 20000 in
theorem tb_R_readWhole_35 {G : GG} (v0 : Nat) (v3 : Int32) (h : Hp) : T G M_R_readWhole 2 cI 35 [(0, .ref v0), (3, .int v3)] [] h (b_R_readWhole_35 v0 v3 h) := by
  unfold b_R_readWhole_35
  refine q_aload_n (pc := 35) (dq D_R_readWhole_0_ok 19 rfl) rfl 0 rfl ?_
  refine q_ic4 (pc := 36) (dq D_R_readWhole_0_ok 20 rfl) ?_
  refine q_aload_n (pc := 37) (dq D_R_readWhole_0_ok 21 rfl) rfl 0 rfl ?_
  refine r_getI (pc := 38) (dq D_R_readWhole_0_ok 22 rfl) fa_R_70 rfl (fun x1 => ?_)
  refine r_invU (Mc := M_R_fail) (pc := 41) (ci := 1) (rest := []) 0 2 [.int 4, .int x1] (dq D_R_readWhole_0_ok 23 rfl) rfl rfl lc_R_fail lv_R_fail_ ml_R_73 rfl rfl rfl rfl (t_R_fail v0 (4 : Int32) x1 h) (fun _ h2 => ?_)
  exact T.lsub [0, 1] rfl (tb_R_readWhole_44 v0 v3 h2)
noncomputable def f_R_readWhole (v0 : Nat) (v1 : Int32) (v2 : Int32) (h : Hp) : Option (Int32 × Hp) := gd (hS h v0 = some (.inl 1)) (lt (hI h v0 9) fun x1 => gd (hS h v0 = some (.inl 1)) (lt (hI h v0 8) fun x2 => if x2 = 2 then (if x1 < v1 then (b_R_readWhole_35 v0 x1 h) else (if x1 ≤ v2 then (b_R_readWhole_44 v0 x1 h) else (b_R_readWhole_35 v0 x1 h))) else (gd (hS h v0 = some (.inl 1)) (lt (hI h v0 6) fun x3 => gd (hS h v0 = some (.inl 1)) (bd (f_R_fail v0 (1 : Int32) x3 h) fun _ h4 => b_R_readWhole_44 v0 x1 h4)))))
set_option maxHeartbeats 4000000 in
set_option maxRecDepth 20000 in
theorem t_R_readWhole {G : GG} (v0 : Nat) (v1 : Int32) (v2 : Int32) (h : Hp) : Mt G M_R_readWhole 2 [.ref v0, .int v1, .int v2] cI h (f_R_readWhole v0 v1 v2 h) := by
  refine Mt.ofF (by decide +kernel) rfl (Rt.i rfl rfl) ?_
  show T G M_R_readWhole 2 cI 0 [(0, .ref v0), (1, .int v1), (2, .int v2)] [] h _
  unfold f_R_readWhole
  refine q_aload_n (pc := 0) (dq D_R_readWhole_0_ok 0 rfl) rfl 0 rfl ?_
  refine r_getI (pc := 1) (dq D_R_readWhole_0_ok 1 rfl) fa_R_255 rfl (fun x1 => ?_)
  refine q_istore_n (pc := 4) (ls' := [(3, .int x1), (0, .ref v0), (1, .int v1), (2, .int v2)]) (dq D_R_readWhole_0_ok 2 rfl) rfl rfl rfl ?_
  refine q_aload_n (pc := 5) (dq D_R_readWhole_0_ok 3 rfl) rfl 1 rfl ?_
  refine r_getI (pc := 6) (dq D_R_readWhole_0_ok 4 rfl) fa_R_67 rfl (fun x2 => ?_)
  refine q_ic2 (pc := 9) (dq D_R_readWhole_0_ok 5 rfl) ?_
  refine q_ic_eq (pc := 10) 25 (dq D_R_readWhole_0_ok 6 rfl) rfl ?_ ?_
  · refine q_iload_n (pc := 25) (dq D_R_readWhole_0_ok 13 rfl) rfl 0 rfl ?_
    refine q_iload_n (pc := 26) (dq D_R_readWhole_0_ok 14 rfl) rfl 2 rfl ?_
    refine q_ic_lt (pc := 27) 35 (dq D_R_readWhole_0_ok 15 rfl) rfl ?_ ?_
    · exact T.lsub [1, 0] rfl (tb_R_readWhole_35 v0 x1 h)
    · refine q_iload_n (pc := 30) (dq D_R_readWhole_0_ok 16 rfl) rfl 0 rfl ?_
      refine q_iload_n (pc := 31) (dq D_R_readWhole_0_ok 17 rfl) rfl 3 rfl ?_
      refine q_ic_le (pc := 32) 44 (dq D_R_readWhole_0_ok 18 rfl) rfl ?_ ?_
      · exact T.lsub [1, 0] rfl (tb_R_readWhole_44 v0 x1 h)
      · exact T.lsub [1, 0] rfl (tb_R_readWhole_35 v0 x1 h)
  · refine q_aload_n (pc := 13) (dq D_R_readWhole_0_ok 7 rfl) rfl 1 rfl ?_
    refine q_ic1 (pc := 14) (dq D_R_readWhole_0_ok 8 rfl) ?_
    refine q_aload_n (pc := 15) (dq D_R_readWhole_0_ok 9 rfl) rfl 1 rfl ?_
    refine r_getI (pc := 16) (dq D_R_readWhole_0_ok 10 rfl) fa_R_70 rfl (fun x3 => ?_)
    refine r_invU (Mc := M_R_fail) (pc := 19) (ci := 1) (rest := []) 0 2 [.int 1, .int x3] (dq D_R_readWhole_0_ok 11 rfl) rfl rfl lc_R_fail lv_R_fail_ ml_R_73 rfl rfl rfl rfl (t_R_fail v0 (1 : Int32) x3 h) (fun _ h4 => ?_)
    refine q_goto (pc := 22) 44 (dq D_R_readWhole_0_ok 12 rfl) rfl ?_
    exact T.lsub [1, 0] rfl (tb_R_readWhole_44 v0 x1 h4)
noncomputable def b_R_readBrass_16 (v0 : Nat) (h : Hp) : Option (Unit × Hp) := gd (zb 1 ∧ hS h v0 = some (.inl 1)) (lt (uI h v0 3 1) fun h1 => gd (hS h1 v0 = some (.inl 1)) (bd (f_R_pass v0 (422825784179 : Int64) h1) fun _ h2 => gd (hS h2 v0 = some (.inl 1)) (bd (f_R_pass v0 (7301484 : Int64) h2) fun _ h4 => gd (hS h4 v0 = some (.inl 1)) (bR (hR h4 v0 2) fun x6 => gd (hS h4 v0 = some (.inl 1)) (bd (f_R_readWhole v0 (0 : Int32) (99 : Int32) h4) fun r8 h7 => gd (hS h7 x6 = some (.inl 2)) (lt (uI h7 x6 0 r8) fun h9 => gd (hS h9 v0 = some (.inl 1)) (bd (f_R_pass v0 (495740088435 : Int64) h9) fun _ h10 => gd (hS h10 v0 = some (.inl 1)) (bR (hR h10 v0 2) fun x12 => gd (hS h10 v0 = some (.inl 1)) (bd (f_R_readWhole v0 (0 : Int32) (100 : Int32) h10) fun r14 h13 => gd (hS h13 x12 = some (.inl 2)) (lt (uI h13 x12 1 r14) fun h15 => some ((), h15)))))))))))
set_option maxHeartbeats 4000000 in
set_option maxRecDepth 20000 in
theorem tb_R_readBrass_16 {G : GG} (v0 : Nat) (h : Hp) : T G M_R_readBrass 3 cU 16 [(0, .ref v0)] [] h (b_R_readBrass_16 v0 h) := by
  unfold b_R_readBrass_16
  refine q_aload_n (pc := 16) (dq D_R_readBrass_0_ok 8 rfl) rfl 0 rfl ?_
  refine q_ic1 (pc := 17) (dq D_R_readBrass_0_ok 9 rfl) ?_
  refine r_putZ (pc := 18) (dq D_R_readBrass_0_ok 10 rfl) fp_R_45 rfl rfl (fun h1 => ?_)
  refine q_aload_n (pc := 21) (dq D_R_readBrass_0_ok 11 rfl) rfl 0 rfl ?_
  refine q_ldc2 (pc := 22) (v := 422825784179) (dq D_R_readBrass_0_ok 12 rfl) lk_R_84 ?_
  refine r_invU (Mc := M_R_pass) (pc := 25) (ci := 1) (rest := []) 2 1 [.long 422825784179] (dq D_R_readBrass_0_ok 13 rfl) rfl rfl lc_R_pass lv_R_pass_ ml_R_129 rfl rfl rfl rfl (t_R_pass v0 (422825784179 : Int64) h1) (fun _ h2 => ?_)
  refine q_aload_n (pc := 28) (dq D_R_readBrass_0_ok 14 rfl) rfl 0 rfl ?_
  refine q_ldc2 (pc := 29) (v := 7301484) (dq D_R_readBrass_0_ok 15 rfl) lk_R_133 ?_
  refine r_invU (Mc := M_R_pass) (pc := 32) (ci := 1) (rest := []) 2 1 [.long 7301484] (dq D_R_readBrass_0_ok 16 rfl) rfl rfl lc_R_pass lv_R_pass_ ml_R_129 rfl rfl rfl rfl (t_R_pass v0 (7301484 : Int64) h2) (fun _ h4 => ?_)
  refine q_aload_n (pc := 35) (dq D_R_readBrass_0_ok 17 rfl) rfl 0 rfl ?_
  refine q_getR (pc := 36) (dq D_R_readBrass_0_ok 18 rfl) fa_R_36 rfl (fun x6 => ?_)
  refine q_aload_n (pc := 39) (dq D_R_readBrass_0_ok 19 rfl) rfl 0 rfl ?_
  refine q_ic0 (pc := 40) (dq D_R_readBrass_0_ok 20 rfl) ?_
  refine q_bipush (pc := 41) (v := 99) (dq D_R_readBrass_0_ok 21 rfl) (by decide) ?_
  refine r_invI (Mc := M_R_readWhole) (pc := 43) (ci := 1) (rest := [.ref x6]) 2 2 [.int 0, .int 99] (dq D_R_readBrass_0_ok 22 rfl) rfl rfl lc_R_readWhole lv_R_readWhole_ ml_R_135 rfl rfl rfl rfl (t_R_readWhole v0 (0 : Int32) (99 : Int32) h4) (fun r8 h7 => ?_)
  refine r_putI (pc := 46) (dq D_R_readBrass_0_ok 23 rfl) fp_R_138 rfl rfl (fun h9 => ?_)
  refine q_aload_n (pc := 49) (dq D_R_readBrass_0_ok 24 rfl) rfl 0 rfl ?_
  refine q_ldc2 (pc := 50) (v := 495740088435) (dq D_R_readBrass_0_ok 25 rfl) lk_R_141 ?_
  refine r_invU (Mc := M_R_pass) (pc := 53) (ci := 1) (rest := []) 2 1 [.long 495740088435] (dq D_R_readBrass_0_ok 26 rfl) rfl rfl lc_R_pass lv_R_pass_ ml_R_129 rfl rfl rfl rfl (t_R_pass v0 (495740088435 : Int64) h9) (fun _ h10 => ?_)
  refine q_aload_n (pc := 56) (dq D_R_readBrass_0_ok 27 rfl) rfl 0 rfl ?_
  refine q_getR (pc := 57) (dq D_R_readBrass_0_ok 28 rfl) fa_R_36 rfl (fun x12 => ?_)
  refine q_aload_n (pc := 60) (dq D_R_readBrass_0_ok 29 rfl) rfl 0 rfl ?_
  refine q_ic0 (pc := 61) (dq D_R_readBrass_0_ok 30 rfl) ?_
  refine q_bipush (pc := 62) (v := 100) (dq D_R_readBrass_0_ok 31 rfl) (by decide) ?_
  refine r_invI (Mc := M_R_readWhole) (pc := 64) (ci := 1) (rest := [.ref x12]) 2 2 [.int 0, .int 100] (dq D_R_readBrass_0_ok 32 rfl) rfl rfl lc_R_readWhole lv_R_readWhole_ ml_R_135 rfl rfl rfl rfl (t_R_readWhole v0 (0 : Int32) (100 : Int32) h10) (fun r14 h13 => ?_)
  refine r_putI (pc := 67) (dq D_R_readBrass_0_ok 33 rfl) fp_R_143 rfl rfl (fun h15 => ?_)
  exact r_retu (pc := 70) (dq D_R_readBrass_0_ok 34 rfl) rfl
noncomputable def f_R_readBrass (v0 : Nat) (h : Hp) : Option (Unit × Hp) := gd (hS h v0 = some (.inl 1)) (lt (hI h v0 3) fun x1 => if x1 = 0 then (b_R_readBrass_16 v0 h) else (gd (hS h v0 = some (.inl 1)) (lt (hI h v0 6) fun x2 => gd (hS h v0 = some (.inl 1)) (bd (f_R_fail v0 (3 : Int32) x2 h) fun _ h3 => b_R_readBrass_16 v0 h3))))
set_option maxHeartbeats 4000000 in
set_option maxRecDepth 20000 in
theorem t_R_readBrass {G : GG} (v0 : Nat) (h : Hp) : Mt G M_R_readBrass 3 [.ref v0] cU h (f_R_readBrass v0 h) := by
  refine Mt.ofF (by decide +kernel) rfl (Rt.v rfl rfl) ?_
  show T G M_R_readBrass 3 cU 0 [(0, .ref v0)] [] h _
  unfold f_R_readBrass
  refine q_aload_n (pc := 0) (dq D_R_readBrass_0_ok 0 rfl) rfl 0 rfl ?_
  refine r_getI (pc := 1) (dq D_R_readBrass_0_ok 1 rfl) fa_R_45 rfl (fun x1 => ?_)
  refine p_if_eq (pc := 4) 16 (dq D_R_readBrass_0_ok 2 rfl) rfl ?_ ?_
  · exact T.lsub [0] rfl (tb_R_readBrass_16 v0 h)
  · refine q_aload_n (pc := 7) (dq D_R_readBrass_0_ok 3 rfl) rfl 0 rfl ?_
    refine q_ic3 (pc := 8) (dq D_R_readBrass_0_ok 4 rfl) ?_
    refine q_aload_n (pc := 9) (dq D_R_readBrass_0_ok 5 rfl) rfl 0 rfl ?_
    refine r_getI (pc := 10) (dq D_R_readBrass_0_ok 6 rfl) fa_R_70 rfl (fun x2 => ?_)
    refine r_invU (Mc := M_R_fail) (pc := 13) (ci := 1) (rest := []) 0 2 [.int 3, .int x2] (dq D_R_readBrass_0_ok 7 rfl) rfl rfl lc_R_fail lv_R_fail_ ml_R_73 rfl rfl rfl rfl (t_R_fail v0 (3 : Int32) x2 h) (fun _ h3 => ?_)
    exact T.lsub [0] rfl (tb_R_readBrass_16 v0 h3)
noncomputable def b_R_findName_2 (k2 : (Nat × Int32) → Hp → Option (Int32 × Hp)) (v0 : Nat) (v1 : Int32) (h : Hp) : Option (Int32 × Hp) := gd (hS h v0 = some (.inl 1)) (lt (hI h v0 12) fun x1 => if x1 ≤ v1 then (some ((-1), h)) else (gd (hS h v0 = some (.inl 1)) (bR (hR h v0 13) fun x2 => gd (ai h x2 1 v1) (lt (hL h x2 v1.toNatClampNeg) fun x3 => gd (hS h v0 = some (.inl 1)) (lt (hL h v0 10) fun x4 => if (lg_cmp x3 x4) = 0 then (some (v1, h)) else (k2 (v0, v1 + 1) h))))))
set_option maxHeartbeats 4000000 in
set_option maxRecDepth 20000 in
theorem tb_R_findName_2 {G : GG} {k2 : (Nat × Int32) → Hp → Option (Int32 × Hp)} (hk2 : ∀ s h, T G M_R_findName 0 cI 2 [(0, .ref s.1), (1, .int s.2)] [] h (k2 s h)) (v0 : Nat) (v1 : Int32) (h : Hp) : T G M_R_findName 0 cI 2 [(0, .ref v0), (1, .int v1)] [] h (b_R_findName_2 k2 v0 v1 h) := by
  unfold b_R_findName_2
  refine q_iload_n (pc := 2) (dq D_R_findName_0_ok 2 rfl) rfl 1 rfl ?_
  refine q_aload_n (pc := 3) (dq D_R_findName_0_ok 3 rfl) rfl 0 rfl ?_
  refine r_getI (pc := 4) (dq D_R_findName_0_ok 4 rfl) fa_R_58 rfl (fun x1 => ?_)
  refine q_ic_ge (pc := 7) 32 (dq D_R_findName_0_ok 5 rfl) rfl ?_ ?_
  · refine q_icm1 (pc := 32) (dq D_R_findName_0_ok 18 rfl) ?_
    exact r_reti (pc := 33) (dq D_R_findName_0_ok 19 rfl) rfl
  · refine q_aload_n (pc := 10) (dq D_R_findName_0_ok 6 rfl) rfl 0 rfl ?_
    refine q_getR (pc := 11) (dq D_R_findName_0_ok 7 rfl) fa_R_11 rfl (fun x2 => ?_)
    refine q_iload_n (pc := 14) (dq D_R_findName_0_ok 8 rfl) rfl 1 rfl ?_
    refine r_lald (pc := 15) (dq D_R_findName_0_ok 9 rfl) (fun x3 => ?_)
    refine q_aload_n (pc := 16) (dq D_R_findName_0_ok 10 rfl) rfl 0 rfl ?_
    refine r_getL (pc := 17) (dq D_R_findName_0_ok 11 rfl) fa_R_261 rfl (fun x4 => ?_)
    refine q_lcmp (pc := 20) (dq D_R_findName_0_ok 12 rfl) ?_
    refine p_if_ne (pc := 21) 26 (dq D_R_findName_0_ok 13 rfl) rfl ?_ ?_
    · refine q_iinc (pc := 26) (v := (1)) (ls' := [(1, .int (v1 + 1)), (0, .ref v0)]) (dq D_R_findName_0_ok 16 rfl) 1 rfl (by decide) rfl rfl ?_
      refine q_goto (pc := 29) 2 (dq D_R_findName_0_ok 17 rfl) rfl ?_
      exact T.lsub [1, 0] rfl (hk2 (v0, v1 + 1) h)
    · refine q_iload_n (pc := 24) (dq D_R_findName_0_ok 14 rfl) rfl 1 rfl ?_
      exact r_reti (pc := 25) (dq D_R_findName_0_ok 15 rfl) rfl
noncomputable def l_R_findName_2 : Nat → (Nat × Int32) → Hp → Option (Int32 × Hp) := lp (fun k2 s h => b_R_findName_2 k2 s.1 s.2 h)
set_option maxHeartbeats 4000000 in
set_option maxRecDepth 20000 in
theorem tl_R_findName_2 {G : GG} (n : Nat) (s : Nat × Int32) (h : Hp) : T G M_R_findName 0 cI 2 [(0, .ref s.1), (1, .int s.2)] [] h (l_R_findName_2 n s h) :=
  T.loop (lsOf := fun s => [(0, .ref s.1), (1, .int s.2)]) (fun k2 hk2 s h => tb_R_findName_2 hk2 s.1 s.2 h) n s h
noncomputable def f_R_findName (v0 : Nat) (h : Hp) : Option (Int32 × Hp) := lt (0 : Int32) fun y1 => l_R_findName_2 FU (v0, y1) h
set_option maxHeartbeats 4000000 in
set_option maxRecDepth 20000 in
theorem t_R_findName {G : GG} (v0 : Nat) (h : Hp) : Mt G M_R_findName 0 [.ref v0] cI h (f_R_findName v0 h) := by
  refine Mt.ofF (by decide +kernel) rfl (Rt.i rfl rfl) ?_
  show T G M_R_findName 0 cI 0 [(0, .ref v0)] [] h _
  unfold f_R_findName
  refine q_ic0 (pc := 0) (dq D_R_findName_0_ok 0 rfl) ?_
  refine r_nmI (fun y1 => ?_)
  refine q_istore_n (pc := 1) (ls' := [(1, .int y1), (0, .ref v0)]) (dq D_R_findName_0_ok 1 rfl) rfl rfl rfl ?_
  exact T.lsub [1, 0] rfl (tl_R_findName_2 FU (v0, y1) h)
noncomputable def b_R_tellName_100 (v0 : Nat) (h : Hp) : Option (Unit × Hp) := gd (hS h v0 = some (.inl 1)) (bd (f_R_step v0 h) fun _ h1 => some ((), h1))
set_option maxHeartbeats 4000000 in
set_option maxRecDepth 20000 in
theorem tb_R_tellName_100 {G : GG} (v0 : Nat) (h : Hp) : T G M_R_tellName 2 cU 100 [(0, .ref v0)] [] h (b_R_tellName_100 v0 h) := by
  unfold b_R_tellName_100
  refine q_aload_n (pc := 100) (dq D_R_tellName_0_ok 53 rfl) rfl 0 rfl ?_
  refine r_invU (Mc := M_R_step) (pc := 101) (ci := 1) (rest := []) 1 0 [] (dq D_R_tellName_0_ok 54 rfl) rfl rfl lc_R_step lv_R_step_ ml_R_61 rfl rfl rfl rfl (t_R_step v0 h) (fun _ h1 => ?_)
  exact r_retu (pc := 104) (dq D_R_tellName_0_ok 55 rfl) rfl
noncomputable def b_R_tellName_41 (v0 : Nat) (v1 : Int32) (v2 : Int32) (h : Hp) : Option (Unit × Hp) := gd (hS h v0 = some (.inl 1)) (lt (hI h v0 4) fun x1 => if x1 = 0 then (gd (hS h v0 = some (.inl 1)) (lt (hI h v0 12) fun x2 => if 13 ≤ x2 then (b_R_tellName_100 v0 h) else (gd (hS h v0 = some (.inl 1)) (bR (hR h v0 13) fun x3 => gd (hS h v0 = some (.inl 1)) (lt (hI h v0 12) fun x4 => gd (hS h v0 = some (.inl 1)) (lt (hL h v0 10) fun x5 => gd (ai h x3 1 x4) (lt (uL h x3 x4.toNatClampNeg x5) fun h6 => gd (hS h6 v0 = some (.inl 1)) (bR (hR h6 v0 14) fun x7 => gd (hS h6 v0 = some (.inl 1)) (lt (hI h6 v0 12) fun x8 => gd (ai h6 x7 0 x8) (lt (uI h6 x7 x8.toNatClampNeg v1) fun h9 => gd (hS h9 v0 = some (.inl 1)) (bR (hR h9 v0 15) fun x10 => gd (hS h9 v0 = some (.inl 1)) (lt (hI h9 v0 12) fun x11 => gd (ai h9 x10 0 x11) (lt (uI h9 x10 x11.toNatClampNeg v2) fun h12 => gd (hS h12 v0 = some (.inl 1)) (lt (hI h12 v0 12) fun x13 => gd (hS h12 v0 = some (.inl 1)) (lt (uI h12 v0 12 (x13 + 1)) fun h14 => b_R_tellName_100 v0 h14))))))))))))))) else (b_R_tellName_100 v0 h))
set_option maxHeartbeats 4000000 in
set_option maxRecDepth 20000 in
theorem tb_R_tellName_41 {G : GG} (v0 : Nat) (v1 : Int32) (v2 : Int32) (h : Hp) : T G M_R_tellName 2 cU 41 [(0, .ref v0), (1, .int v1), (2, .int v2)] [] h (b_R_tellName_41 v0 v1 v2 h) := by
  unfold b_R_tellName_41
  refine q_aload_n (pc := 41) (dq D_R_tellName_0_ok 21 rfl) rfl 0 rfl ?_
  refine r_getI (pc := 42) (dq D_R_tellName_0_ok 22 rfl) fa_R_49 rfl (fun x1 => ?_)
  refine p_if_ne (pc := 45) 100 (dq D_R_tellName_0_ok 23 rfl) rfl ?_ ?_
  · exact T.lsub [0] rfl (tb_R_tellName_100 v0 h)
  · refine q_aload_n (pc := 48) (dq D_R_tellName_0_ok 24 rfl) rfl 0 rfl ?_
    refine r_getI (pc := 49) (dq D_R_tellName_0_ok 25 rfl) fa_R_58 rfl (fun x2 => ?_)
    refine q_bipush (pc := 52) (v := 13) (dq D_R_tellName_0_ok 26 rfl) (by decide) ?_
    refine q_ic_ge (pc := 54) 100 (dq D_R_tellName_0_ok 27 rfl) rfl ?_ ?_
    · exact T.lsub [0] rfl (tb_R_tellName_100 v0 h)
    · refine q_aload_n (pc := 57) (dq D_R_tellName_0_ok 28 rfl) rfl 0 rfl ?_
      refine q_getR (pc := 58) (dq D_R_tellName_0_ok 29 rfl) fa_R_11 rfl (fun x3 => ?_)
      refine q_aload_n (pc := 61) (dq D_R_tellName_0_ok 30 rfl) rfl 0 rfl ?_
      refine r_getI (pc := 62) (dq D_R_tellName_0_ok 31 rfl) fa_R_58 rfl (fun x4 => ?_)
      refine q_aload_n (pc := 65) (dq D_R_tellName_0_ok 32 rfl) rfl 0 rfl ?_
      refine r_getL (pc := 66) (dq D_R_tellName_0_ok 33 rfl) fa_R_261 rfl (fun x5 => ?_)
      refine r_last (pc := 69) (dq D_R_tellName_0_ok 34 rfl) (fun h6 => ?_)
      refine q_aload_n (pc := 70) (dq D_R_tellName_0_ok 35 rfl) rfl 0 rfl ?_
      refine q_getR (pc := 71) (dq D_R_tellName_0_ok 36 rfl) fa_R_15 rfl (fun x7 => ?_)
      refine q_aload_n (pc := 74) (dq D_R_tellName_0_ok 37 rfl) rfl 0 rfl ?_
      refine r_getI (pc := 75) (dq D_R_tellName_0_ok 38 rfl) fa_R_58 rfl (fun x8 => ?_)
      refine q_iload_n (pc := 78) (dq D_R_tellName_0_ok 39 rfl) rfl 1 rfl ?_
      refine r_iast (pc := 79) (dq D_R_tellName_0_ok 40 rfl) (fun h9 => ?_)
      refine q_aload_n (pc := 80) (dq D_R_tellName_0_ok 41 rfl) rfl 0 rfl ?_
      refine q_getR (pc := 81) (dq D_R_tellName_0_ok 42 rfl) fa_R_19 rfl (fun x10 => ?_)
      refine q_aload_n (pc := 84) (dq D_R_tellName_0_ok 43 rfl) rfl 0 rfl ?_
      refine r_getI (pc := 85) (dq D_R_tellName_0_ok 44 rfl) fa_R_58 rfl (fun x11 => ?_)
      refine q_iload_n (pc := 88) (dq D_R_tellName_0_ok 45 rfl) rfl 2 rfl ?_
      refine r_iast (pc := 89) (dq D_R_tellName_0_ok 46 rfl) (fun h12 => ?_)
      refine q_aload_n (pc := 90) (dq D_R_tellName_0_ok 47 rfl) rfl 0 rfl ?_
      refine q_dup (pc := 91) (dq D_R_tellName_0_ok 48 rfl) rfl ?_
      refine r_getI (pc := 92) (dq D_R_tellName_0_ok 49 rfl) fa_R_58 rfl (fun x13 => ?_)
      refine q_ic1 (pc := 95) (dq D_R_tellName_0_ok 50 rfl) ?_
      refine q_iadd (pc := 96) (dq D_R_tellName_0_ok 51 rfl) ?_
      refine r_putI (pc := 97) (dq D_R_tellName_0_ok 52 rfl) fp_R_58 rfl rfl (fun h14 => ?_)
      exact T.lsub [0] rfl (tb_R_tellName_100 v0 h14)
noncomputable def b_R_tellName_24 (v0 : Nat) (v1 : Int32) (v2 : Int32) (h : Hp) : Option (Unit × Hp) := gd (hS h v0 = some (.inl 1)) (bd (f_R_findName v0 h) fun r2 h1 => if r2 = ((-1)) then (b_R_tellName_41 v0 v1 v2 h1) else (gd (hS h1 v0 = some (.inl 1)) (lt (hI h1 v0 6) fun x3 => gd (hS h1 v0 = some (.inl 1)) (bd (f_R_fail v0 (3 : Int32) x3 h1) fun _ h4 => b_R_tellName_41 v0 v1 v2 h4))))
set_option maxHeartbeats 4000000 in
set_option maxRecDepth 20000 in
theorem tb_R_tellName_24 {G : GG} (v0 : Nat) (v1 : Int32) (v2 : Int32) (h : Hp) : T G M_R_tellName 2 cU 24 [(0, .ref v0), (1, .int v1), (2, .int v2)] [] h (b_R_tellName_24 v0 v1 v2 h) := by
  unfold b_R_tellName_24
  refine q_aload_n (pc := 24) (dq D_R_tellName_0_ok 12 rfl) rfl 0 rfl ?_
  refine r_invI (Mc := M_R_findName) (pc := 25) (ci := 1) (rest := []) 0 0 [] (dq D_R_tellName_0_ok 13 rfl) rfl rfl lc_R_findName lv_R_findName_ ml_R_258 rfl rfl rfl rfl (t_R_findName v0 h) (fun r2 h1 => ?_)
  refine q_icm1 (pc := 28) (dq D_R_tellName_0_ok 14 rfl) ?_
  refine q_ic_eq (pc := 29) 41 (dq D_R_tellName_0_ok 15 rfl) rfl ?_ ?_
  · exact T.lsub [0, 1, 2] rfl (tb_R_tellName_41 v0 v1 v2 h1)
  · refine q_aload_n (pc := 32) (dq D_R_tellName_0_ok 16 rfl) rfl 0 rfl ?_
    refine q_ic3 (pc := 33) (dq D_R_tellName_0_ok 17 rfl) ?_
    refine q_aload_n (pc := 34) (dq D_R_tellName_0_ok 18 rfl) rfl 0 rfl ?_
    refine r_getI (pc := 35) (dq D_R_tellName_0_ok 19 rfl) fa_R_70 rfl (fun x3 => ?_)
    refine r_invU (Mc := M_R_fail) (pc := 38) (ci := 1) (rest := []) 0 2 [.int 3, .int x3] (dq D_R_tellName_0_ok 20 rfl) rfl rfl lc_R_fail lv_R_fail_ ml_R_73 rfl rfl rfl rfl (t_R_fail v0 (3 : Int32) x3 h1) (fun _ h4 => ?_)
    exact T.lsub [0, 1, 2] rfl (tb_R_tellName_41 v0 v1 v2 h4)
noncomputable def b_R_tellName_15 (v0 : Nat) (v1 : Int32) (v2 : Int32) (h : Hp) : Option (Unit × Hp) := gd (hS h v0 = some (.inl 1)) (lt (hI h v0 6) fun x1 => gd (hS h v0 = some (.inl 1)) (bd (f_R_fail v0 (1 : Int32) x1 h) fun _ h2 => b_R_tellName_24 v0 v1 v2 h2))
set_option maxHeartbeats 4000000 in
set_option maxRecDepth 20000 in
theorem tb_R_tellName_15 {G : GG} (v0 : Nat) (v1 : Int32) (v2 : Int32) (h : Hp) : T G M_R_tellName 2 cU 15 [(0, .ref v0), (1, .int v1), (2, .int v2)] [] h (b_R_tellName_15 v0 v1 v2 h) := by
  unfold b_R_tellName_15
  refine q_aload_n (pc := 15) (dq D_R_tellName_0_ok 7 rfl) rfl 0 rfl ?_
  refine q_ic1 (pc := 16) (dq D_R_tellName_0_ok 8 rfl) ?_
  refine q_aload_n (pc := 17) (dq D_R_tellName_0_ok 9 rfl) rfl 0 rfl ?_
  refine r_getI (pc := 18) (dq D_R_tellName_0_ok 10 rfl) fa_R_70 rfl (fun x1 => ?_)
  refine r_invU (Mc := M_R_fail) (pc := 21) (ci := 1) (rest := []) 0 2 [.int 1, .int x1] (dq D_R_tellName_0_ok 11 rfl) rfl rfl lc_R_fail lv_R_fail_ ml_R_73 rfl rfl rfl rfl (t_R_fail v0 (1 : Int32) x1 h) (fun _ h2 => ?_)
  exact T.lsub [0, 1, 2] rfl (tb_R_tellName_24 v0 v1 v2 h2)
noncomputable def f_R_tellName (v0 : Nat) (v1 : Int32) (v2 : Int32) (h : Hp) : Option (Unit × Hp) := gd (hS h v0 = some (.inl 1)) (lt (hI h v0 8) fun x1 => if x1 = 1 then (gd (hS h v0 = some (.inl 1)) (bd (f_R_isLineWord v0 h) fun r3 h2 => if r3 = 0 then (b_R_tellName_24 v0 v1 v2 h2) else (b_R_tellName_15 v0 v1 v2 h2))) else (b_R_tellName_15 v0 v1 v2 h))
set_option maxHeartbeats 4000000 in
set_option maxRecDepth 20000 in
theorem t_R_tellName {G : GG} (v0 : Nat) (v1 : Int32) (v2 : Int32) (h : Hp) : Mt G M_R_tellName 2 [.ref v0, .int v1, .int v2] cU h (f_R_tellName v0 v1 v2 h) := by
  refine Mt.ofF (by decide +kernel) rfl (Rt.v rfl rfl) ?_
  show T G M_R_tellName 2 cU 0 [(0, .ref v0), (1, .int v1), (2, .int v2)] [] h _
  unfold f_R_tellName
  refine q_aload_n (pc := 0) (dq D_R_tellName_0_ok 0 rfl) rfl 0 rfl ?_
  refine r_getI (pc := 1) (dq D_R_tellName_0_ok 1 rfl) fa_R_67 rfl (fun x1 => ?_)
  refine q_ic1 (pc := 4) (dq D_R_tellName_0_ok 2 rfl) ?_
  refine q_ic_ne (pc := 5) 15 (dq D_R_tellName_0_ok 3 rfl) rfl ?_ ?_
  · exact T.lsub [0, 1, 2] rfl (tb_R_tellName_15 v0 v1 v2 h)
  · refine q_aload_n (pc := 8) (dq D_R_tellName_0_ok 4 rfl) rfl 0 rfl ?_
    refine r_invI (Mc := M_R_isLineWord) (pc := 9) (ci := 1) (rest := []) 0 0 [] (dq D_R_tellName_0_ok 5 rfl) rfl rfl lc_R_isLineWord lv_R_isLineWord_ ml_R_80 rfl rfl rfl rfl (t_R_isLineWord v0 h) (fun r3 h2 => ?_)
    refine p_if_eq (pc := 12) 24 (dq D_R_tellName_0_ok 6 rfl) rfl ?_ ?_
    · exact T.lsub [0, 1, 2] rfl (tb_R_tellName_24 v0 v1 v2 h2)
    · exact T.lsub [0, 1, 2] rfl (tb_R_tellName_15 v0 v1 v2 h2)
noncomputable def b_R_readKind_66 (v0 : Nat) (v1 : Int32) (h : Hp) : Option (Int32 × Hp) := gd (hS h v0 = some (.inl 1)) (bd (f_R_step v0 h) fun _ h1 => some (v1, h1))
set_option maxHeartbeats 4000000 in
set_option maxRecDepth 20000 in
theorem tb_R_readKind_66 {G : GG} (v0 : Nat) (v1 : Int32) (h : Hp) : T G M_R_readKind 2 cI 66 [(0, .ref v0), (1, .int v1)] [] h (b_R_readKind_66 v0 v1 h) := by
  unfold b_R_readKind_66
  refine q_aload_n (pc := 66) (dq D_R_readKind_0_ok 32 rfl) rfl 0 rfl ?_
  refine r_invU (Mc := M_R_step) (pc := 67) (ci := 1) (rest := []) 1 0 [] (dq D_R_readKind_0_ok 33 rfl) rfl rfl lc_R_step lv_R_step_ ml_R_61 rfl rfl rfl rfl (t_R_step v0 h) (fun _ h1 => ?_)
  refine q_iload_n (pc := 70) (dq D_R_readKind_0_ok 34 rfl) rfl 1 rfl ?_
  exact r_reti (pc := 71) (dq D_R_readKind_0_ok 35 rfl) rfl
noncomputable def f_R_readKind (v0 : Nat) (h : Hp) : Option (Int32 × Hp) := lt (0 : Int32) fun y1 => gd (hS h v0 = some (.inl 1)) (bd (f_R_is v0 (1836019566 : Int64) h) fun r3 h2 => if r3 = 0 then (gd (hS h2 v0 = some (.inl 1)) (bd (f_R_is v0 (32765899314457701 : Int64) h2) fun r5 h4 => if r5 = 0 then (gd (hS h4 v0 = some (.inl 1)) (bd (f_R_is v0 (1650811236 : Int64) h4) fun r7 h6 => if r7 = 0 then (gd (hS h6 v0 = some (.inl 1)) (bd (f_R_is v0 (123610793403764 : Int64) h6) fun r9 h8 => if r9 = 0 then (gd (hS h8 v0 = some (.inl 1)) (lt (hI h8 v0 6) fun x10 => gd (hS h8 v0 = some (.inl 1)) (bd (f_R_fail v0 (1 : Int32) x10 h8) fun _ h11 => b_R_readKind_66 v0 y1 h11))) else (b_R_readKind_66 v0 y1 h8))) else (lt (3 : Int32) fun y13 => b_R_readKind_66 v0 y13 h6))) else (lt (2 : Int32) fun y14 => b_R_readKind_66 v0 y14 h4))) else (lt (1 : Int32) fun y15 => b_R_readKind_66 v0 y15 h2))
set_option maxHeartbeats 4000000 in
set_option maxRecDepth 20000 in
theorem t_R_readKind {G : GG} (v0 : Nat) (h : Hp) : Mt G M_R_readKind 2 [.ref v0] cI h (f_R_readKind v0 h) := by
  refine Mt.ofF (by decide +kernel) rfl (Rt.i rfl rfl) ?_
  show T G M_R_readKind 2 cI 0 [(0, .ref v0)] [] h _
  unfold f_R_readKind
  refine q_ic0 (pc := 0) (dq D_R_readKind_0_ok 0 rfl) ?_
  refine r_nmI (fun y1 => ?_)
  refine q_istore_n (pc := 1) (ls' := [(1, .int y1), (0, .ref v0)]) (dq D_R_readKind_0_ok 1 rfl) rfl rfl rfl ?_
  refine q_aload_n (pc := 2) (dq D_R_readKind_0_ok 2 rfl) rfl 1 rfl ?_
  refine q_ldc2 (pc := 3) (v := 1836019566) (dq D_R_readKind_0_ok 3 rfl) lk_R_169 ?_
  refine r_invI (Mc := M_R_is) (pc := 6) (ci := 1) (rest := []) 0 1 [.long 1836019566] (dq D_R_readKind_0_ok 4 rfl) rfl rfl lc_R_is lv_R_is_ ml_R_86 rfl rfl rfl rfl (t_R_is v0 (1836019566 : Int64) h) (fun r3 h2 => ?_)
  refine p_if_eq (pc := 9) 17 (dq D_R_readKind_0_ok 5 rfl) rfl ?_ ?_
  · refine q_aload_n (pc := 17) (dq D_R_readKind_0_ok 9 rfl) rfl 1 rfl ?_
    refine q_ldc2 (pc := 18) (v := 32765899314457701) (dq D_R_readKind_0_ok 10 rfl) lk_R_171 ?_
    refine r_invI (Mc := M_R_is) (pc := 21) (ci := 1) (rest := []) 0 1 [.long 32765899314457701] (dq D_R_readKind_0_ok 11 rfl) rfl rfl lc_R_is lv_R_is_ ml_R_86 rfl rfl rfl rfl (t_R_is v0 (32765899314457701 : Int64) h2) (fun r5 h4 => ?_)
    refine p_if_eq (pc := 24) 32 (dq D_R_readKind_0_ok 12 rfl) rfl ?_ ?_
    · refine q_aload_n (pc := 32) (dq D_R_readKind_0_ok 16 rfl) rfl 1 rfl ?_
      refine q_ldc2 (pc := 33) (v := 1650811236) (dq D_R_readKind_0_ok 17 rfl) lk_R_173 ?_
      refine r_invI (Mc := M_R_is) (pc := 36) (ci := 1) (rest := []) 0 1 [.long 1650811236] (dq D_R_readKind_0_ok 18 rfl) rfl rfl lc_R_is lv_R_is_ ml_R_86 rfl rfl rfl rfl (t_R_is v0 (1650811236 : Int64) h4) (fun r7 h6 => ?_)
      refine p_if_eq (pc := 39) 47 (dq D_R_readKind_0_ok 19 rfl) rfl ?_ ?_
      · refine q_aload_n (pc := 47) (dq D_R_readKind_0_ok 23 rfl) rfl 1 rfl ?_
        refine q_ldc2 (pc := 48) (v := 123610793403764) (dq D_R_readKind_0_ok 24 rfl) lk_R_175 ?_
        refine r_invI (Mc := M_R_is) (pc := 51) (ci := 1) (rest := []) 0 1 [.long 123610793403764] (dq D_R_readKind_0_ok 25 rfl) rfl rfl lc_R_is lv_R_is_ ml_R_86 rfl rfl rfl rfl (t_R_is v0 (123610793403764 : Int64) h6) (fun r9 h8 => ?_)
        refine p_if_ne (pc := 54) 66 (dq D_R_readKind_0_ok 26 rfl) rfl ?_ ?_
        · exact T.lsub [1, 0] rfl (tb_R_readKind_66 v0 y1 h8)
        · refine q_aload_n (pc := 57) (dq D_R_readKind_0_ok 27 rfl) rfl 1 rfl ?_
          refine q_ic1 (pc := 58) (dq D_R_readKind_0_ok 28 rfl) ?_
          refine q_aload_n (pc := 59) (dq D_R_readKind_0_ok 29 rfl) rfl 1 rfl ?_
          refine r_getI (pc := 60) (dq D_R_readKind_0_ok 30 rfl) fa_R_70 rfl (fun x10 => ?_)
          refine r_invU (Mc := M_R_fail) (pc := 63) (ci := 1) (rest := []) 0 2 [.int 1, .int x10] (dq D_R_readKind_0_ok 31 rfl) rfl rfl lc_R_fail lv_R_fail_ ml_R_73 rfl rfl rfl rfl (t_R_fail v0 (1 : Int32) x10 h8) (fun _ h11 => ?_)
          exact T.lsub [1, 0] rfl (tb_R_readKind_66 v0 y1 h11)
      · refine q_ic3 (pc := 42) (dq D_R_readKind_0_ok 20 rfl) ?_
        refine r_nmI (fun y13 => ?_)
        refine q_istore_n (pc := 43) (ls' := [(1, .int y13), (0, .ref v0)]) (dq D_R_readKind_0_ok 21 rfl) rfl rfl rfl ?_
        refine q_goto (pc := 44) 66 (dq D_R_readKind_0_ok 22 rfl) rfl ?_
        exact T.lsub [1, 0] rfl (tb_R_readKind_66 v0 y13 h6)
    · refine q_ic2 (pc := 27) (dq D_R_readKind_0_ok 13 rfl) ?_
      refine r_nmI (fun y14 => ?_)
      refine q_istore_n (pc := 28) (ls' := [(1, .int y14), (0, .ref v0)]) (dq D_R_readKind_0_ok 14 rfl) rfl rfl rfl ?_
      refine q_goto (pc := 29) 66 (dq D_R_readKind_0_ok 15 rfl) rfl ?_
      exact T.lsub [1, 0] rfl (tb_R_readKind_66 v0 y14 h4)
  · refine q_ic1 (pc := 12) (dq D_R_readKind_0_ok 6 rfl) ?_
    refine r_nmI (fun y15 => ?_)
    refine q_istore_n (pc := 13) (ls' := [(1, .int y15), (0, .ref v0)]) (dq D_R_readKind_0_ok 7 rfl) rfl rfl rfl ?_
    refine q_goto (pc := 14) 66 (dq D_R_readKind_0_ok 8 rfl) rfl ?_
    exact T.lsub [1, 0] rfl (tb_R_readKind_66 v0 y15 h2)
noncomputable def f_W_tell (v0 : Nat) (v1 : Int32) (v2 : Int32) (v3 : Int32) (v4 : Int32) (h : Hp) : Option (Unit × Hp) := gd (hS h v0 = some (.inl 3)) (lt (uI h v0 0 v1) fun h1 => gd (hS h1 v0 = some (.inl 3)) (lt (uI h1 v0 1 v2) fun h2 => gd (hS h2 v0 = some (.inl 3)) (lt (uI h2 v0 2 v3) fun h3 => gd (hS h3 v0 = some (.inl 3)) (lt (uI h3 v0 3 v4) fun h4 => gd (hS h4 v0 = some (.inl 3)) (lt (uI h4 v0 4 0) fun h5 => gd (hS h5 v0 = some (.inl 3)) (lt (uL h5 v0 5 0) fun h6 => some ((), h6)))))))
set_option maxHeartbeats 4000000 in
set_option maxRecDepth 20000 in
theorem t_W_tell {G : GG} (v0 : Nat) (v1 : Int32) (v2 : Int32) (v3 : Int32) (v4 : Int32) (h : Hp) : Mt G M_W_tell 0 [.ref v0, .int v1, .int v2, .int v3, .int v4] cU h (f_W_tell v0 v1 v2 v3 v4 h) := by
  refine Mt.ofF (by decide +kernel) rfl (Rt.v rfl rfl) ?_
  show T G M_W_tell 0 cU 0 [(0, .ref v0), (1, .int v1), (2, .int v2), (3, .int v3), (4, .int v4)] [] h _
  unfold f_W_tell
  refine q_aload_n (pc := 0) (dq D_W_tell_0_ok 0 rfl) rfl 0 rfl ?_
  refine q_iload_n (pc := 1) (dq D_W_tell_0_ok 1 rfl) rfl 1 rfl ?_
  refine r_putI (pc := 2) (dq D_W_tell_0_ok 2 rfl) fp_W_9 rfl rfl (fun h1 => ?_)
  refine q_aload_n (pc := 5) (dq D_W_tell_0_ok 3 rfl) rfl 0 rfl ?_
  refine q_iload_n (pc := 6) (dq D_W_tell_0_ok 4 rfl) rfl 2 rfl ?_
  refine r_putI (pc := 7) (dq D_W_tell_0_ok 5 rfl) fp_W_15 rfl rfl (fun h2 => ?_)
  refine q_aload_n (pc := 10) (dq D_W_tell_0_ok 6 rfl) rfl 0 rfl ?_
  refine q_iload_n (pc := 11) (dq D_W_tell_0_ok 7 rfl) rfl 3 rfl ?_
  refine r_putI (pc := 12) (dq D_W_tell_0_ok 8 rfl) fp_W_18 rfl rfl (fun h3 => ?_)
  refine q_aload_n (pc := 15) (dq D_W_tell_0_ok 9 rfl) rfl 0 rfl ?_
  refine q_iload (pc := 16) (dq D_W_tell_0_ok 10 rfl) 4 rfl ?_
  refine r_putI (pc := 18) (dq D_W_tell_0_ok 11 rfl) fp_W_21 rfl rfl (fun h4 => ?_)
  refine q_aload_n (pc := 21) (dq D_W_tell_0_ok 12 rfl) rfl 0 rfl ?_
  refine q_ic0 (pc := 22) (dq D_W_tell_0_ok 13 rfl) ?_
  refine r_putI (pc := 23) (dq D_W_tell_0_ok 14 rfl) fp_W_24 rfl rfl (fun h5 => ?_)
  refine q_aload_n (pc := 26) (dq D_W_tell_0_ok 15 rfl) rfl 0 rfl ?_
  refine q_lconst (pc := 27) (v := 0) (dq D_W_tell_0_ok 16 rfl) (by decide) ?_
  refine r_putL (pc := 28) (dq D_W_tell_0_ok 17 rfl) fp_W_27 rfl rfl (fun h6 => ?_)
  exact r_retu (pc := 31) (dq D_W_tell_0_ok 18 rfl) rfl
noncomputable def b_R_readWheel_20 (v0 : Nat) (h : Hp) : Option (Unit × Hp) := gd (hS h v0 = some (.inl 1)) (bd (f_R_pass v0 (512852583788 : Int64) h) fun _ h1 => gd (hS h1 v0 = some (.inl 1)) (bR (hR h1 v0 2) fun x3 => gd (hS h1 x3 = some (.inl 2)) (lt (hI h1 x3 2) fun x4 => gd (hS h1 v0 = some (.inl 1)) (bd (f_R_tellName v0 (0 : Int32) x4 h1) fun _ h5 => gd (hS h5 v0 = some (.inl 1)) (bd (f_R_readKind v0 h5) fun r8 h7 => gd (hS h7 v0 = some (.inl 1)) (bd (f_R_pass v0 (499917354088 : Int64) h7) fun _ h9 => gd (hS h9 v0 = some (.inl 1)) (bd (f_R_readWhole v0 (4 : Int32) (60 : Int32) h9) fun r12 h11 => gd (hS h11 v0 = some (.inl 1)) (bd (f_R_pass v0 (25209 : Int64) h11) fun _ h13 => bd (f_Math_min (9 : Int32) (r12 - 1) h13) fun r16 h15 => gd (hS h15 v0 = some (.inl 1)) (bd (f_R_readWhole v0 (1 : Int32) r16 h15) fun r18 h17 => gd (hS h17 v0 = some (.inl 1)) (bd (f_R_pass v0 (24948 : Int64) h17) fun _ h19 => gd (hS h19 v0 = some (.inl 1)) (bd (f_R_readWhole v0 (0 : Int32) (r12 - 1) h19) fun r22 h21 => gd (hS h21 v0 = some (.inl 1)) (lt (hI h21 v0 4) fun x23 => if x23 = 0 then (gd (hS h21 v0 = some (.inl 1)) (bR (hR h21 v0 2) fun x24 => gd (hS h21 x24 = some (.inl 2)) (bR (hR h21 x24 3) fun x25 => gd (hS h21 v0 = some (.inl 1)) (bR (hR h21 v0 2) fun x26 => gd (hS h21 x26 = some (.inl 2)) (lt (hI h21 x26 2) fun x27 => gd (ai h21 x25 4 x27) (bR (hR h21 x25 x27.toNatClampNeg) fun x28 => gd (hS h21 x28 = some (.inl 3)) (bd (f_W_tell x28 r8 r12 r18 r22 h21) fun _ h29 => gd (hS h29 v0 = some (.inl 1)) (bR (hR h29 v0 2) fun x31 => gd (hS h29 x31 = some (.inl 2)) (lt (hI h29 x31 2) fun x32 => gd (hS h29 x31 = some (.inl 2)) (lt (uI h29 x31 2 (x32 + 1)) fun h33 => some ((), h33))))))))))) else (some ((), h21))))))))))))))
set_option maxHeartbeats 4000000 in
set_option maxRecDepth 20000 in
theorem tb_R_readWheel_20 {G : GG} (v0 : Nat) (h : Hp) : T G M_R_readWheel 3 cU 20 [(0, .ref v0)] [] h (b_R_readWheel_20 v0 h) := by
  unfold b_R_readWheel_20
  refine q_aload_n (pc := 20) (dq D_R_readWheel_0_ok 10 rfl) rfl 0 rfl ?_
  refine q_ldc2 (pc := 21) (v := 512852583788) (dq D_R_readWheel_0_ok 11 rfl) lk_R_93 ?_
  refine r_invU (Mc := M_R_pass) (pc := 24) (ci := 1) (rest := []) 2 1 [.long 512852583788] (dq D_R_readWheel_0_ok 12 rfl) rfl rfl lc_R_pass lv_R_pass_ ml_R_129 rfl rfl rfl rfl (t_R_pass v0 (512852583788 : Int64) h) (fun _ h1 => ?_)
  refine q_aload_n (pc := 27) (dq D_R_readWheel_0_ok 13 rfl) rfl 0 rfl ?_
  refine q_ic0 (pc := 28) (dq D_R_readWheel_0_ok 14 rfl) ?_
  refine q_aload_n (pc := 29) (dq D_R_readWheel_0_ok 15 rfl) rfl 0 rfl ?_
  refine q_getR (pc := 30) (dq D_R_readWheel_0_ok 16 rfl) fa_R_36 rfl (fun x3 => ?_)
  refine r_getI (pc := 33) (dq D_R_readWheel_0_ok 17 rfl) fa_R_77 rfl (fun x4 => ?_)
  refine r_invU (Mc := M_R_tellName) (pc := 36) (ci := 1) (rest := []) 2 2 [.int 0, .int x4] (dq D_R_readWheel_0_ok 18 rfl) rfl rfl lc_R_tellName lv_R_tellName_ ml_R_146 rfl rfl rfl rfl (t_R_tellName v0 (0 : Int32) x4 h1) (fun _ h5 => ?_)
  refine q_aload_n (pc := 39) (dq D_R_readWheel_0_ok 19 rfl) rfl 0 rfl ?_
  refine r_invI (Mc := M_R_readKind) (pc := 40) (ci := 1) (rest := []) 2 0 [] (dq D_R_readWheel_0_ok 20 rfl) rfl rfl lc_R_readKind lv_R_readKind_ ml_R_149 rfl rfl rfl rfl (t_R_readKind v0 h5) (fun r8 h7 => ?_)
  refine q_istore_n (pc := 43) (ls' := [(1, .int r8), (0, .ref v0)]) (dq D_R_readWheel_0_ok 21 rfl) rfl rfl rfl ?_
  refine q_aload_n (pc := 44) (dq D_R_readWheel_0_ok 22 rfl) rfl 1 rfl ?_
  refine q_ldc2 (pc := 45) (v := 499917354088) (dq D_R_readWheel_0_ok 23 rfl) lk_R_153 ?_
  refine r_invU (Mc := M_R_pass) (pc := 48) (ci := 1) (rest := []) 2 1 [.long 499917354088] (dq D_R_readWheel_0_ok 24 rfl) rfl rfl lc_R_pass lv_R_pass_ ml_R_129 rfl rfl rfl rfl (t_R_pass v0 (499917354088 : Int64) h7) (fun _ h9 => ?_)
  refine q_aload_n (pc := 51) (dq D_R_readWheel_0_ok 25 rfl) rfl 1 rfl ?_
  refine q_ic4 (pc := 52) (dq D_R_readWheel_0_ok 26 rfl) ?_
  refine q_bipush (pc := 53) (v := 60) (dq D_R_readWheel_0_ok 27 rfl) (by decide) ?_
  refine r_invI (Mc := M_R_readWhole) (pc := 55) (ci := 1) (rest := []) 2 2 [.int 4, .int 60] (dq D_R_readWheel_0_ok 28 rfl) rfl rfl lc_R_readWhole lv_R_readWhole_ ml_R_135 rfl rfl rfl rfl (t_R_readWhole v0 (4 : Int32) (60 : Int32) h9) (fun r12 h11 => ?_)
  refine q_istore_n (pc := 58) (ls' := [(2, .int r12), (1, .int r8), (0, .ref v0)]) (dq D_R_readWheel_0_ok 29 rfl) rfl rfl rfl ?_
  refine q_aload_n (pc := 59) (dq D_R_readWheel_0_ok 30 rfl) rfl 2 rfl ?_
  refine q_ldc2 (pc := 60) (v := 25209) (dq D_R_readWheel_0_ok 31 rfl) lk_R_155 ?_
  refine r_invU (Mc := M_R_pass) (pc := 63) (ci := 1) (rest := []) 2 1 [.long 25209] (dq D_R_readWheel_0_ok 32 rfl) rfl rfl lc_R_pass lv_R_pass_ ml_R_129 rfl rfl rfl rfl (t_R_pass v0 (25209 : Int64) h11) (fun _ h13 => ?_)
  refine q_aload_n (pc := 66) (dq D_R_readWheel_0_ok 33 rfl) rfl 2 rfl ?_
  refine q_ic1 (pc := 67) (dq D_R_readWheel_0_ok 34 rfl) ?_
  refine q_bipush (pc := 68) (v := 9) (dq D_R_readWheel_0_ok 35 rfl) (by decide) ?_
  refine q_iload_n (pc := 70) (dq D_R_readWheel_0_ok 36 rfl) rfl 0 rfl ?_
  refine q_ic1 (pc := 71) (dq D_R_readWheel_0_ok 37 rfl) ?_
  refine q_isub (pc := 72) (dq D_R_readWheel_0_ok 38 rfl) ?_
  refine r_insI (Mc := M_Math_min) (pc := 73) (rest := [.int 1, .ref v0]) 0 2 [.int 9, .int (r12 - 1)] (dq D_R_readWheel_0_ok 39 rfl) lc_Math_min ls_Math_min ml_R_26 rfl rfl rfl rfl (t_Math_min (9 : Int32) (r12 - 1) h13) (fun r16 h15 => ?_)
  refine r_invI (Mc := M_R_readWhole) (pc := 76) (ci := 1) (rest := []) 2 2 [.int 1, .int r16] (dq D_R_readWheel_0_ok 40 rfl) rfl rfl lc_R_readWhole lv_R_readWhole_ ml_R_135 rfl rfl rfl rfl (t_R_readWhole v0 (1 : Int32) r16 h15) (fun r18 h17 => ?_)
  refine q_istore_n (pc := 79) (ls' := [(3, .int r18), (2, .int r12), (1, .int r8), (0, .ref v0)]) (dq D_R_readWheel_0_ok 41 rfl) rfl rfl rfl ?_
  refine q_aload_n (pc := 80) (dq D_R_readWheel_0_ok 42 rfl) rfl 3 rfl ?_
  refine q_ldc2 (pc := 81) (v := 24948) (dq D_R_readWheel_0_ok 43 rfl) lk_R_157 ?_
  refine r_invU (Mc := M_R_pass) (pc := 84) (ci := 1) (rest := []) 2 1 [.long 24948] (dq D_R_readWheel_0_ok 44 rfl) rfl rfl lc_R_pass lv_R_pass_ ml_R_129 rfl rfl rfl rfl (t_R_pass v0 (24948 : Int64) h17) (fun _ h19 => ?_)
  refine q_aload_n (pc := 87) (dq D_R_readWheel_0_ok 45 rfl) rfl 3 rfl ?_
  refine q_ic0 (pc := 88) (dq D_R_readWheel_0_ok 46 rfl) ?_
  refine q_iload_n (pc := 89) (dq D_R_readWheel_0_ok 47 rfl) rfl 1 rfl ?_
  refine q_ic1 (pc := 90) (dq D_R_readWheel_0_ok 48 rfl) ?_
  refine q_isub (pc := 91) (dq D_R_readWheel_0_ok 49 rfl) ?_
  refine r_invI (Mc := M_R_readWhole) (pc := 92) (ci := 1) (rest := []) 2 2 [.int 0, .int (r12 - 1)] (dq D_R_readWheel_0_ok 50 rfl) rfl rfl lc_R_readWhole lv_R_readWhole_ ml_R_135 rfl rfl rfl rfl (t_R_readWhole v0 (0 : Int32) (r12 - 1) h19) (fun r22 h21 => ?_)
  refine q_istore (pc := 95) (ls' := [(4, .int r22), (3, .int r18), (2, .int r12), (1, .int r8), (0, .ref v0)]) (dq D_R_readWheel_0_ok 51 rfl) rfl rfl ?_
  refine q_aload_n (pc := 97) (dq D_R_readWheel_0_ok 52 rfl) rfl 4 rfl ?_
  refine r_getI (pc := 98) (dq D_R_readWheel_0_ok 53 rfl) fa_R_49 rfl (fun x23 => ?_)
  refine p_if_ne (pc := 101) 140 (dq D_R_readWheel_0_ok 54 rfl) rfl ?_ ?_
  · exact r_retu (pc := 140) (dq D_R_readWheel_1_ok 14 rfl) rfl
  · refine q_aload_n (pc := 104) (dq D_R_readWheel_0_ok 55 rfl) rfl 4 rfl ?_
    refine q_getR (pc := 105) (dq D_R_readWheel_0_ok 56 rfl) fa_R_36 rfl (fun x24 => ?_)
    refine q_getR (pc := 108) (dq D_R_readWheel_0_ok 57 rfl) fa_R_159 rfl (fun x25 => ?_)
    refine q_aload_n (pc := 111) (dq D_R_readWheel_0_ok 58 rfl) rfl 4 rfl ?_
    refine q_getR (pc := 112) (dq D_R_readWheel_0_ok 59 rfl) fa_R_36 rfl (fun x26 => ?_)
    refine r_getI (pc := 115) (dq D_R_readWheel_1_ok 0 rfl) fa_R_77 rfl (fun x27 => ?_)
    refine r_aald (pc := 118) 4 (dq D_R_readWheel_1_ok 1 rfl) rfl rfl (fun _ => rfl) (fun x28 => ?_)
    refine q_iload_n (pc := 119) (dq D_R_readWheel_1_ok 2 rfl) rfl 3 rfl ?_
    refine q_iload_n (pc := 120) (dq D_R_readWheel_1_ok 3 rfl) rfl 2 rfl ?_
    refine q_iload_n (pc := 121) (dq D_R_readWheel_1_ok 4 rfl) rfl 1 rfl ?_
    refine q_iload (pc := 122) (dq D_R_readWheel_1_ok 5 rfl) 0 rfl ?_
    refine r_invU (Mc := M_W_tell) (pc := 124) (ci := 3) (rest := []) 0 4 [.int r8, .int r12, .int r18, .int r22] (dq D_R_readWheel_1_ok 6 rfl) rfl rfl lc_W_tell lv_W_tell_ ml_R_163 rfl rfl rfl rfl (t_W_tell x28 r8 r12 r18 r22 h21) (fun _ h29 => ?_)
    refine q_aload_n (pc := 127) (dq D_R_readWheel_1_ok 7 rfl) rfl 4 rfl ?_
    refine q_getR (pc := 128) (dq D_R_readWheel_1_ok 8 rfl) fa_R_36 rfl (fun x31 => ?_)
    refine q_dup (pc := 131) (dq D_R_readWheel_1_ok 9 rfl) rfl ?_
    refine r_getI (pc := 132) (dq D_R_readWheel_1_ok 10 rfl) fa_R_77 rfl (fun x32 => ?_)
    refine q_ic1 (pc := 135) (dq D_R_readWheel_1_ok 11 rfl) ?_
    refine q_iadd (pc := 136) (dq D_R_readWheel_1_ok 12 rfl) ?_
    refine r_putI (pc := 137) (dq D_R_readWheel_1_ok 13 rfl) fp_R_77 rfl rfl (fun h33 => ?_)
    exact r_retu (pc := 140) (dq D_R_readWheel_1_ok 14 rfl) rfl
noncomputable def f_R_readWheel (v0 : Nat) (h : Hp) : Option (Unit × Hp) := gd (hS h v0 = some (.inl 1)) (bR (hR h v0 2) fun x1 => gd (hS h x1 = some (.inl 2)) (lt (hI h x1 2) fun x2 => if x2 < 5 then (b_R_readWheel_20 v0 h) else (gd (hS h v0 = some (.inl 1)) (lt (hI h v0 6) fun x3 => gd (hS h v0 = some (.inl 1)) (bd (f_R_fail v0 (5 : Int32) x3 h) fun _ h4 => b_R_readWheel_20 v0 h4)))))
set_option maxHeartbeats 4000000 in
set_option maxRecDepth 20000 in
theorem t_R_readWheel {G : GG} (v0 : Nat) (h : Hp) : Mt G M_R_readWheel 3 [.ref v0] cU h (f_R_readWheel v0 h) := by
  refine Mt.ofF (by decide +kernel) rfl (Rt.v rfl rfl) ?_
  show T G M_R_readWheel 3 cU 0 [(0, .ref v0)] [] h _
  unfold f_R_readWheel
  refine q_aload_n (pc := 0) (dq D_R_readWheel_0_ok 0 rfl) rfl 0 rfl ?_
  refine q_getR (pc := 1) (dq D_R_readWheel_0_ok 1 rfl) fa_R_36 rfl (fun x1 => ?_)
  refine r_getI (pc := 4) (dq D_R_readWheel_0_ok 2 rfl) fa_R_77 rfl (fun x2 => ?_)
  refine q_ic5 (pc := 7) (dq D_R_readWheel_0_ok 3 rfl) ?_
  refine q_ic_lt (pc := 8) 20 (dq D_R_readWheel_0_ok 4 rfl) rfl ?_ ?_
  · exact T.lsub [0] rfl (tb_R_readWheel_20 v0 h)
  · refine q_aload_n (pc := 11) (dq D_R_readWheel_0_ok 5 rfl) rfl 0 rfl ?_
    refine q_ic5 (pc := 12) (dq D_R_readWheel_0_ok 6 rfl) ?_
    refine q_aload_n (pc := 13) (dq D_R_readWheel_0_ok 7 rfl) rfl 0 rfl ?_
    refine r_getI (pc := 14) (dq D_R_readWheel_0_ok 8 rfl) fa_R_70 rfl (fun x3 => ?_)
    refine r_invU (Mc := M_R_fail) (pc := 17) (ci := 1) (rest := []) 0 2 [.int 5, .int x3] (dq D_R_readWheel_0_ok 9 rfl) rfl rfl lc_R_fail lv_R_fail_ ml_R_73 rfl rfl rfl rfl (t_R_fail v0 (5 : Int32) x3 h) (fun _ h4 => ?_)
    exact T.lsub [0] rfl (tb_R_readWheel_20 v0 h4)
noncomputable def b_R_readName_53 (v0 : Nat) (v2 : Int32) (h : Hp) : Option (Int32 × Hp) := gd (hS h v0 = some (.inl 1)) (bd (f_R_step v0 h) fun _ h1 => gd (hS h1 v0 = some (.inl 1)) (lt (hI h1 v0 4) fun x3 => if x3 = 0 then (gd (hS h1 v0 = some (.inl 1)) (bR (hR h1 v0 15) fun x4 => gd (ai h1 x4 0 v2) (lt (hI h1 x4 v2.toNatClampNeg) fun x5 => some (x5, h1)))) else (some ((-1), h1))))
set_option maxHeartbeats 4000000 in
set_option maxRecDepth 20000 in
theorem tb_R_readName_53 {G : GG} (v0 : Nat) (v2 : Int32) (h : Hp) : T G M_R_readName 2 cI 53 [(0, .ref v0), (2, .int v2)] [] h (b_R_readName_53 v0 v2 h) := by
  unfold b_R_readName_53
  refine q_aload_n (pc := 53) (dq D_R_readName_0_ok 29 rfl) rfl 0 rfl ?_
  refine r_invU (Mc := M_R_step) (pc := 54) (ci := 1) (rest := []) 1 0 [] (dq D_R_readName_0_ok 30 rfl) rfl rfl lc_R_step lv_R_step_ ml_R_61 rfl rfl rfl rfl (t_R_step v0 h) (fun _ h1 => ?_)
  refine q_aload_n (pc := 57) (dq D_R_readName_0_ok 31 rfl) rfl 0 rfl ?_
  refine r_getI (pc := 58) (dq D_R_readName_0_ok 32 rfl) fa_R_49 rfl (fun x3 => ?_)
  refine p_if_ne (pc := 61) 73 (dq D_R_readName_0_ok 33 rfl) rfl ?_ ?_
  · refine q_icm1 (pc := 73) (dq D_R_readName_0_ok 39 rfl) ?_
    exact r_reti (pc := 74) (dq D_R_readName_0_ok 40 rfl) rfl
  · refine q_aload_n (pc := 64) (dq D_R_readName_0_ok 34 rfl) rfl 0 rfl ?_
    refine q_getR (pc := 65) (dq D_R_readName_0_ok 35 rfl) fa_R_19 rfl (fun x4 => ?_)
    refine q_iload_n (pc := 68) (dq D_R_readName_0_ok 36 rfl) rfl 1 rfl ?_
    refine r_iald (pc := 69) (dq D_R_readName_0_ok 37 rfl) (fun x5 => ?_)
    refine q_goto (pc := 70) 74 (dq D_R_readName_0_ok 38 rfl) rfl ?_
    exact r_reti (pc := 74) (dq D_R_readName_0_ok 40 rfl) rfl
noncomputable def b_R_readName_44 (v0 : Nat) (v2 : Int32) (h : Hp) : Option (Int32 × Hp) := gd (hS h v0 = some (.inl 1)) (lt (hI h v0 6) fun x1 => gd (hS h v0 = some (.inl 1)) (bd (f_R_fail v0 (2 : Int32) x1 h) fun _ h2 => b_R_readName_53 v0 v2 h2))
set_option maxHeartbeats 4000000 in
set_option maxRecDepth 20000 in
theorem tb_R_readName_44 {G : GG} (v0 : Nat) (v2 : Int32) (h : Hp) : T G M_R_readName 2 cI 44 [(0, .ref v0), (2, .int v2)] [] h (b_R_readName_44 v0 v2 h) := by
  unfold b_R_readName_44
  refine q_aload_n (pc := 44) (dq D_R_readName_0_ok 24 rfl) rfl 0 rfl ?_
  refine q_ic2 (pc := 45) (dq D_R_readName_0_ok 25 rfl) ?_
  refine q_aload_n (pc := 46) (dq D_R_readName_0_ok 26 rfl) rfl 0 rfl ?_
  refine r_getI (pc := 47) (dq D_R_readName_0_ok 27 rfl) fa_R_70 rfl (fun x1 => ?_)
  refine r_invU (Mc := M_R_fail) (pc := 50) (ci := 1) (rest := []) 0 2 [.int 2, .int x1] (dq D_R_readName_0_ok 28 rfl) rfl rfl lc_R_fail lv_R_fail_ ml_R_73 rfl rfl rfl rfl (t_R_fail v0 (2 : Int32) x1 h) (fun _ h2 => ?_)
  exact T.lsub [0, 1] rfl (tb_R_readName_53 v0 v2 h2)
noncomputable def b_R_readName_24 (v0 : Nat) (v1 : Int32) (h : Hp) : Option (Int32 × Hp) := gd (hS h v0 = some (.inl 1)) (bd (f_R_findName v0 h) fun r2 h1 => if r2 = ((-1)) then (b_R_readName_44 v0 r2 h1) else (gd (hS h1 v0 = some (.inl 1)) (bR (hR h1 v0 14) fun x3 => gd (ai h1 x3 0 r2) (lt (hI h1 x3 r2.toNatClampNeg) fun x4 => if x4 = v1 then (b_R_readName_53 v0 r2 h1) else (b_R_readName_44 v0 r2 h1)))))
set_option maxHeartbeats 4000000 in
set_option maxRecDepth 20000 in
theorem tb_R_readName_24 {G : GG} (v0 : Nat) (v1 : Int32) (h : Hp) : T G M_R_readName 2 cI 24 [(0, .ref v0), (1, .int v1)] [] h (b_R_readName_24 v0 v1 h) := by
  unfold b_R_readName_24
  refine q_aload_n (pc := 24) (dq D_R_readName_0_ok 12 rfl) rfl 0 rfl ?_
  refine r_invI (Mc := M_R_findName) (pc := 25) (ci := 1) (rest := []) 0 0 [] (dq D_R_readName_0_ok 13 rfl) rfl rfl lc_R_findName lv_R_findName_ ml_R_258 rfl rfl rfl rfl (t_R_findName v0 h) (fun r2 h1 => ?_)
  refine q_istore_n (pc := 28) (ls' := [(2, .int r2), (0, .ref v0), (1, .int v1)]) (dq D_R_readName_0_ok 14 rfl) rfl rfl rfl ?_
  refine q_iload_n (pc := 29) (dq D_R_readName_0_ok 15 rfl) rfl 0 rfl ?_
  refine q_icm1 (pc := 30) (dq D_R_readName_0_ok 16 rfl) ?_
  refine q_ic_eq (pc := 31) 44 (dq D_R_readName_0_ok 17 rfl) rfl ?_ ?_
  · exact T.lsub [1, 0] rfl (tb_R_readName_44 v0 r2 h1)
  · refine q_aload_n (pc := 34) (dq D_R_readName_0_ok 18 rfl) rfl 1 rfl ?_
    refine q_getR (pc := 35) (dq D_R_readName_0_ok 19 rfl) fa_R_15 rfl (fun x3 => ?_)
    refine q_iload_n (pc := 38) (dq D_R_readName_0_ok 20 rfl) rfl 0 rfl ?_
    refine r_iald (pc := 39) (dq D_R_readName_0_ok 21 rfl) (fun x4 => ?_)
    refine q_iload_n (pc := 40) (dq D_R_readName_0_ok 22 rfl) rfl 2 rfl ?_
    refine q_ic_eq (pc := 41) 53 (dq D_R_readName_0_ok 23 rfl) rfl ?_ ?_
    · exact T.lsub [1, 0] rfl (tb_R_readName_53 v0 r2 h1)
    · exact T.lsub [1, 0] rfl (tb_R_readName_44 v0 r2 h1)
noncomputable def b_R_readName_15 (v0 : Nat) (v1 : Int32) (h : Hp) : Option (Int32 × Hp) := gd (hS h v0 = some (.inl 1)) (lt (hI h v0 6) fun x1 => gd (hS h v0 = some (.inl 1)) (bd (f_R_fail v0 (1 : Int32) x1 h) fun _ h2 => b_R_readName_24 v0 v1 h2))
set_option maxHeartbeats 4000000 in
set_option maxRecDepth 20000 in
theorem tb_R_readName_15 {G : GG} (v0 : Nat) (v1 : Int32) (h : Hp) : T G M_R_readName 2 cI 15 [(0, .ref v0), (1, .int v1)] [] h (b_R_readName_15 v0 v1 h) := by
  unfold b_R_readName_15
  refine q_aload_n (pc := 15) (dq D_R_readName_0_ok 7 rfl) rfl 0 rfl ?_
  refine q_ic1 (pc := 16) (dq D_R_readName_0_ok 8 rfl) ?_
  refine q_aload_n (pc := 17) (dq D_R_readName_0_ok 9 rfl) rfl 0 rfl ?_
  refine r_getI (pc := 18) (dq D_R_readName_0_ok 10 rfl) fa_R_70 rfl (fun x1 => ?_)
  refine r_invU (Mc := M_R_fail) (pc := 21) (ci := 1) (rest := []) 0 2 [.int 1, .int x1] (dq D_R_readName_0_ok 11 rfl) rfl rfl lc_R_fail lv_R_fail_ ml_R_73 rfl rfl rfl rfl (t_R_fail v0 (1 : Int32) x1 h) (fun _ h2 => ?_)
  exact T.lsub [0, 1] rfl (tb_R_readName_24 v0 v1 h2)
noncomputable def f_R_readName (v0 : Nat) (v1 : Int32) (h : Hp) : Option (Int32 × Hp) := gd (hS h v0 = some (.inl 1)) (lt (hI h v0 8) fun x1 => if x1 = 1 then (gd (hS h v0 = some (.inl 1)) (bd (f_R_isLineWord v0 h) fun r3 h2 => if r3 = 0 then (b_R_readName_24 v0 v1 h2) else (b_R_readName_15 v0 v1 h2))) else (b_R_readName_15 v0 v1 h))
set_option maxHeartbeats 4000000 in
set_option maxRecDepth 20000 in
theorem t_R_readName {G : GG} (v0 : Nat) (v1 : Int32) (h : Hp) : Mt G M_R_readName 2 [.ref v0, .int v1] cI h (f_R_readName v0 v1 h) := by
  refine Mt.ofF (by decide +kernel) rfl (Rt.i rfl rfl) ?_
  show T G M_R_readName 2 cI 0 [(0, .ref v0), (1, .int v1)] [] h _
  unfold f_R_readName
  refine q_aload_n (pc := 0) (dq D_R_readName_0_ok 0 rfl) rfl 0 rfl ?_
  refine r_getI (pc := 1) (dq D_R_readName_0_ok 1 rfl) fa_R_67 rfl (fun x1 => ?_)
  refine q_ic1 (pc := 4) (dq D_R_readName_0_ok 2 rfl) ?_
  refine q_ic_ne (pc := 5) 15 (dq D_R_readName_0_ok 3 rfl) rfl ?_ ?_
  · exact T.lsub [0, 1] rfl (tb_R_readName_15 v0 v1 h)
  · refine q_aload_n (pc := 8) (dq D_R_readName_0_ok 4 rfl) rfl 0 rfl ?_
    refine r_invI (Mc := M_R_isLineWord) (pc := 9) (ci := 1) (rest := []) 0 0 [] (dq D_R_readName_0_ok 5 rfl) rfl rfl lc_R_isLineWord lv_R_isLineWord_ ml_R_80 rfl rfl rfl rfl (t_R_isLineWord v0 h) (fun r3 h2 => ?_)
    refine p_if_eq (pc := 12) 24 (dq D_R_readName_0_ok 6 rfl) rfl ?_ ?_
    · exact T.lsub [0, 1] rfl (tb_R_readName_24 v0 v1 h2)
    · exact T.lsub [0, 1] rfl (tb_R_readName_15 v0 v1 h2)
noncomputable def f_W_lacks (v0 : Nat) (v1 : Int32) (h : Hp) : Option (Int32 × Hp) := gd (hS h v0 = some (.inl 3)) (lt (hL h v0 5) fun x1 => if (lg_cmp ((x1 >>> (v1.toInt64 &&& 63)) &&& 1) 1) = 0 then (gd (zb 1) (some (1, h))) else (gd (zb 0) (some (0, h))))
set_option maxHeartbeats 4000000 in
set_option maxRecDepth 20000 in
theorem t_W_lacks {G : GG} (v0 : Nat) (v1 : Int32) (h : Hp) : Mt G M_W_lacks 0 [.ref v0, .int v1] cI h (f_W_lacks v0 v1 h) := by
  refine Mt.ofF (by decide +kernel) rfl (Rt.z rfl rfl) ?_
  show T G M_W_lacks 0 cI 0 [(0, .ref v0), (1, .int v1)] [] h _
  unfold f_W_lacks
  refine q_aload_n (pc := 0) (dq D_W_lacks_0_ok 0 rfl) rfl 0 rfl ?_
  refine r_getL (pc := 1) (dq D_W_lacks_0_ok 1 rfl) fa_W_27 rfl (fun x1 => ?_)
  refine q_iload_n (pc := 4) (dq D_W_lacks_0_ok 2 rfl) rfl 1 rfl ?_
  refine q_lshr (pc := 5) (dq D_W_lacks_0_ok 3 rfl) ?_
  refine q_lconst (pc := 6) (v := 1) (dq D_W_lacks_0_ok 4 rfl) (by decide) ?_
  refine q_land (pc := 7) (dq D_W_lacks_0_ok 5 rfl) ?_
  refine q_lconst (pc := 8) (v := 1) (dq D_W_lacks_0_ok 6 rfl) (by decide) ?_
  refine q_lcmp (pc := 9) (dq D_W_lacks_0_ok 7 rfl) ?_
  refine p_if_ne (pc := 10) 17 (dq D_W_lacks_0_ok 8 rfl) rfl ?_ ?_
  · refine q_ic0 (pc := 17) (dq D_W_lacks_0_ok 11 rfl) ?_
    exact r_retz (pc := 18) (dq D_W_lacks_0_ok 12 rfl) rfl
  · refine q_ic1 (pc := 13) (dq D_W_lacks_0_ok 9 rfl) ?_
    refine q_goto (pc := 14) 18 (dq D_W_lacks_0_ok 10 rfl) rfl ?_
    exact r_retz (pc := 18) (dq D_W_lacks_0_ok 12 rfl) rfl
noncomputable def f_W_loseTooth (v0 : Nat) (v1 : Int32) (h : Hp) : Option (Unit × Hp) := gd (hS h v0 = some (.inl 3)) (lt (hL h v0 5) fun x1 => gd (hS h v0 = some (.inl 3)) (lt (uL h v0 5 (x1 ||| ((1 : Int64) <<< (v1.toInt64 &&& 63)))) fun h2 => gd (hS h2 v0 = some (.inl 3)) (lt (hI h2 v0 4) fun x3 => gd (hS h2 v0 = some (.inl 3)) (lt (uI h2 v0 4 (x3 + 1)) fun h4 => some ((), h4)))))
set_option maxHeartbeats 4000000 in
set_option maxRecDepth 20000 in
theorem t_W_loseTooth {G : GG} (v0 : Nat) (v1 : Int32) (h : Hp) : Mt G M_W_loseTooth 0 [.ref v0, .int v1] cU h (f_W_loseTooth v0 v1 h) := by
  refine Mt.ofF (by decide +kernel) rfl (Rt.v rfl rfl) ?_
  show T G M_W_loseTooth 0 cU 0 [(0, .ref v0), (1, .int v1)] [] h _
  unfold f_W_loseTooth
  refine q_aload_n (pc := 0) (dq D_W_loseTooth_0_ok 0 rfl) rfl 0 rfl ?_
  refine q_dup (pc := 1) (dq D_W_loseTooth_0_ok 1 rfl) rfl ?_
  refine r_getL (pc := 2) (dq D_W_loseTooth_0_ok 2 rfl) fa_W_27 rfl (fun x1 => ?_)
  refine q_lconst (pc := 5) (v := 1) (dq D_W_loseTooth_0_ok 3 rfl) (by decide) ?_
  refine q_iload_n (pc := 6) (dq D_W_loseTooth_0_ok 4 rfl) rfl 1 rfl ?_
  refine q_lshl (pc := 7) (dq D_W_loseTooth_0_ok 5 rfl) ?_
  refine q_lor (pc := 8) (dq D_W_loseTooth_0_ok 6 rfl) ?_
  refine r_putL (pc := 9) (dq D_W_loseTooth_0_ok 7 rfl) fp_W_27 rfl rfl (fun h2 => ?_)
  refine q_aload_n (pc := 12) (dq D_W_loseTooth_0_ok 8 rfl) rfl 0 rfl ?_
  refine q_dup (pc := 13) (dq D_W_loseTooth_0_ok 9 rfl) rfl ?_
  refine r_getI (pc := 14) (dq D_W_loseTooth_0_ok 10 rfl) fa_W_24 rfl (fun x3 => ?_)
  refine q_ic1 (pc := 17) (dq D_W_loseTooth_0_ok 11 rfl) ?_
  refine q_iadd (pc := 18) (dq D_W_loseTooth_0_ok 12 rfl) ?_
  refine r_putI (pc := 19) (dq D_W_loseTooth_0_ok 13 rfl) fp_W_24 rfl rfl (fun h4 => ?_)
  exact r_retu (pc := 22) (dq D_W_loseTooth_0_ok 14 rfl) rfl
noncomputable def b_R_readGone_105 (v0 : Nat) (v2 : Nat) (v3 : Int32) (h : Hp) : Option (Unit × Hp) := gd (hS h v0 = some (.inl 1)) (lt (hI h v0 4) fun x1 => if x1 = 0 then (gd (hS h v2 = some (.inl 3)) (bd (f_W_loseTooth v2 v3 h) fun _ h2 => some ((), h2))) else (some ((), h)))
set_option maxHeartbeats 4000000 in
set_option maxRecDepth 20000 in
theorem tb_R_readGone_105 {G : GG} (v0 : Nat) (v2 : Nat) (v3 : Int32) (h : Hp) : T G M_R_readGone 3 cU 105 [(0, .ref v0), (2, .ref v2), (3, .int v3)] [] h (b_R_readGone_105 v0 v2 v3 h) := by
  unfold b_R_readGone_105
  refine q_aload_n (pc := 105) (dq D_R_readGone_0_ok 56 rfl) rfl 0 rfl ?_
  refine r_getI (pc := 106) (dq D_R_readGone_0_ok 57 rfl) fa_R_49 rfl (fun x1 => ?_)
  refine p_if_ne (pc := 109) 117 (dq D_R_readGone_0_ok 58 rfl) rfl ?_ ?_
  · exact r_retu (pc := 117) (dq D_R_readGone_1_ok 2 rfl) rfl
  · refine q_aload_n (pc := 112) (dq D_R_readGone_0_ok 59 rfl) rfl 1 rfl ?_
    refine q_iload_n (pc := 113) (dq D_R_readGone_1_ok 0 rfl) rfl 2 rfl ?_
    refine r_invU (Mc := M_W_loseTooth) (pc := 114) (ci := 3) (rest := []) 0 1 [.int v3] (dq D_R_readGone_1_ok 1 rfl) rfl rfl lc_W_loseTooth lv_W_loseTooth_ ml_R_197 rfl rfl rfl rfl (t_W_loseTooth v2 v3 h) (fun _ h2 => ?_)
    exact r_retu (pc := 117) (dq D_R_readGone_1_ok 2 rfl) rfl
noncomputable def b_R_readGone_69 (v0 : Nat) (v2 : Nat) (h : Hp) : Option (Unit × Hp) := gd (hS h v2 = some (.inl 3)) (lt (hI h v2 1) fun x1 => gd (hS h v0 = some (.inl 1)) (bd (f_R_readWhole v0 (0 : Int32) (x1 - 1) h) fun r3 h2 => gd (hS h2 v0 = some (.inl 1)) (lt (hI h2 v0 4) fun x4 => if x4 = 0 then (gd (hS h2 v2 = some (.inl 3)) (bd (f_W_lacks v2 r3 h2) fun r6 h5 => if r6 = 0 then (b_R_readGone_105 v0 v2 r3 h5) else (gd (hS h5 v0 = some (.inl 1)) (lt (hI h5 v0 11) fun x7 => gd (hS h5 v0 = some (.inl 1)) (bd (f_R_fail v0 (3 : Int32) x7 h5) fun _ h8 => b_R_readGone_105 v0 v2 r3 h8))))) else (b_R_readGone_105 v0 v2 r3 h2))))
set_option maxHeartbeats 4000000 in
set_option maxRecDepth 20000 in
theorem tb_R_readGone_69 {G : GG} (v0 : Nat) (v2 : Nat) (h : Hp) : T G M_R_readGone 3 cU 69 [(0, .ref v0), (2, .ref v2)] [] h (b_R_readGone_69 v0 v2 h) := by
  unfold b_R_readGone_69
  refine q_aload_n (pc := 69) (dq D_R_readGone_0_ok 36 rfl) rfl 0 rfl ?_
  refine q_ic0 (pc := 70) (dq D_R_readGone_0_ok 37 rfl) ?_
  refine q_aload_n (pc := 71) (dq D_R_readGone_0_ok 38 rfl) rfl 1 rfl ?_
  refine r_getI (pc := 72) (dq D_R_readGone_0_ok 39 rfl) fa_R_190 rfl (fun x1 => ?_)
  refine q_ic1 (pc := 75) (dq D_R_readGone_0_ok 40 rfl) ?_
  refine q_isub (pc := 76) (dq D_R_readGone_0_ok 41 rfl) ?_
  refine r_invI (Mc := M_R_readWhole) (pc := 77) (ci := 1) (rest := []) 2 2 [.int 0, .int (x1 - 1)] (dq D_R_readGone_0_ok 42 rfl) rfl rfl lc_R_readWhole lv_R_readWhole_ ml_R_135 rfl rfl rfl rfl (t_R_readWhole v0 (0 : Int32) (x1 - 1) h) (fun r3 h2 => ?_)
  refine q_istore_n (pc := 80) (ls' := [(3, .int r3), (0, .ref v0), (2, .ref v2)]) (dq D_R_readGone_0_ok 43 rfl) rfl rfl rfl ?_
  refine q_aload_n (pc := 81) (dq D_R_readGone_0_ok 44 rfl) rfl 1 rfl ?_
  refine r_getI (pc := 82) (dq D_R_readGone_0_ok 45 rfl) fa_R_49 rfl (fun x4 => ?_)
  refine p_if_ne (pc := 85) 105 (dq D_R_readGone_0_ok 46 rfl) rfl ?_ ?_
  · exact T.lsub [1, 2, 0] rfl (tb_R_readGone_105 v0 v2 r3 h2)
  · refine q_aload_n (pc := 88) (dq D_R_readGone_0_ok 47 rfl) rfl 2 rfl ?_
    refine q_iload_n (pc := 89) (dq D_R_readGone_0_ok 48 rfl) rfl 0 rfl ?_
    refine r_invI (Mc := M_W_lacks) (pc := 90) (ci := 3) (rest := []) 0 1 [.int r3] (dq D_R_readGone_0_ok 49 rfl) rfl rfl lc_W_lacks lv_W_lacks_ ml_R_193 rfl rfl rfl rfl (t_W_lacks v2 r3 h2) (fun r6 h5 => ?_)
    refine p_if_eq (pc := 93) 105 (dq D_R_readGone_0_ok 50 rfl) rfl ?_ ?_
    · exact T.lsub [1, 2, 0] rfl (tb_R_readGone_105 v0 v2 r3 h5)
    · refine q_aload_n (pc := 96) (dq D_R_readGone_0_ok 51 rfl) rfl 1 rfl ?_
      refine q_ic3 (pc := 97) (dq D_R_readGone_0_ok 52 rfl) ?_
      refine q_aload_n (pc := 98) (dq D_R_readGone_0_ok 53 rfl) rfl 1 rfl ?_
      refine r_getI (pc := 99) (dq D_R_readGone_0_ok 54 rfl) fa_R_184 rfl (fun x7 => ?_)
      refine r_invU (Mc := M_R_fail) (pc := 102) (ci := 1) (rest := []) 0 2 [.int 3, .int x7] (dq D_R_readGone_0_ok 55 rfl) rfl rfl lc_R_fail lv_R_fail_ ml_R_73 rfl rfl rfl rfl (t_R_fail v0 (3 : Int32) x7 h5) (fun _ h8 => ?_)
      exact T.lsub [1, 2, 0] rfl (tb_R_readGone_105 v0 v2 r3 h8)
noncomputable def b_R_readGone_48 (v0 : Nat) (v1 : Int32) (v2 : Nat) (h : Hp) : Option (Unit × Hp) := gd (hS h v0 = some (.inl 1)) (bR (hR h v0 2) fun x1 => gd (hS h x1 = some (.inl 2)) (lt (hI h x1 12) fun x2 => if v1 = x2 then (gd (hS h v0 = some (.inl 1)) (lt (hI h v0 11) fun x3 => gd (hS h v0 = some (.inl 1)) (bd (f_R_fail v0 (7 : Int32) x3 h) fun _ h4 => b_R_readGone_69 v0 v2 h4))) else (b_R_readGone_69 v0 v2 h)))
set_option maxHeartbeats 4000000 in
set_option maxRecDepth 20000 in
theorem tb_R_readGone_48 {G : GG} (v0 : Nat) (v1 : Int32) (v2 : Nat) (h : Hp) : T G M_R_readGone 3 cU 48 [(0, .ref v0), (1, .int v1), (2, .ref v2)] [] h (b_R_readGone_48 v0 v1 v2 h) := by
  unfold b_R_readGone_48
  refine q_iload_n (pc := 48) (dq D_R_readGone_0_ok 26 rfl) rfl 1 rfl ?_
  refine q_aload_n (pc := 49) (dq D_R_readGone_0_ok 27 rfl) rfl 0 rfl ?_
  refine q_getR (pc := 50) (dq D_R_readGone_0_ok 28 rfl) fa_R_36 rfl (fun x1 => ?_)
  refine r_getI (pc := 53) (dq D_R_readGone_0_ok 29 rfl) fa_R_187 rfl (fun x2 => ?_)
  refine q_ic_ne (pc := 56) 69 (dq D_R_readGone_0_ok 30 rfl) rfl ?_ ?_
  · exact T.lsub [0, 2] rfl (tb_R_readGone_69 v0 v2 h)
  · refine q_aload_n (pc := 59) (dq D_R_readGone_0_ok 31 rfl) rfl 0 rfl ?_
    refine q_bipush (pc := 60) (v := 7) (dq D_R_readGone_0_ok 32 rfl) (by decide) ?_
    refine q_aload_n (pc := 62) (dq D_R_readGone_0_ok 33 rfl) rfl 0 rfl ?_
    refine r_getI (pc := 63) (dq D_R_readGone_0_ok 34 rfl) fa_R_184 rfl (fun x3 => ?_)
    refine r_invU (Mc := M_R_fail) (pc := 66) (ci := 1) (rest := []) 0 2 [.int 7, .int x3] (dq D_R_readGone_0_ok 35 rfl) rfl rfl lc_R_fail lv_R_fail_ ml_R_73 rfl rfl rfl rfl (t_R_fail v0 (7 : Int32) x3 h) (fun _ h4 => ?_)
    exact T.lsub [0, 2] rfl (tb_R_readGone_69 v0 v2 h4)
noncomputable def f_R_readGone (v0 : Nat) (h : Hp) : Option (Unit × Hp) := gd (hS h v0 = some (.inl 1)) (bd (f_R_pass v0 (1735356005 : Int64) h) fun _ h1 => gd (hS h1 v0 = some (.inl 1)) (bd (f_R_readName v0 (0 : Int32) h1) fun r4 h3 => gd (hS h3 v0 = some (.inl 1)) (lt (hI h3 v0 4) fun x5 => if x5 = 0 then (gd (hS h3 v0 = some (.inl 1)) (bR (hR h3 v0 2) fun x6 => gd (hS h3 x6 = some (.inl 2)) (bR (hR h3 x6 3) fun x7 => gd (ai h3 x7 4 r4) (bR (hR h3 x7 r4.toNatClampNeg) fun x8 => gd (hS h3 x8 = some (.inl 3)) (lt (hI h3 x8 4) fun x9 => if x9 < 2 then (b_R_readGone_48 v0 r4 x8 h3) else (gd (hS h3 v0 = some (.inl 1)) (lt (hI h3 v0 11) fun x10 => gd (hS h3 v0 = some (.inl 1)) (bd (f_R_fail v0 (5 : Int32) x10 h3) fun _ h11 => b_R_readGone_48 v0 r4 x8 h11)))))))) else (some ((), h3)))))
set_option maxHeartbeats 4000000 in
set_option maxRecDepth 20000 in
theorem t_R_readGone {G : GG} (v0 : Nat) (h : Hp) : Mt G M_R_readGone 3 [.ref v0] cU h (f_R_readGone v0 h) := by
  refine Mt.ofF (by decide +kernel) rfl (Rt.v rfl rfl) ?_
  show T G M_R_readGone 3 cU 0 [(0, .ref v0)] [] h _
  unfold f_R_readGone
  refine q_aload_n (pc := 0) (dq D_R_readGone_0_ok 0 rfl) rfl 0 rfl ?_
  refine q_ldc2 (pc := 1) (v := 1735356005) (dq D_R_readGone_0_ok 1 rfl) lk_R_98 ?_
  refine r_invU (Mc := M_R_pass) (pc := 4) (ci := 1) (rest := []) 2 1 [.long 1735356005] (dq D_R_readGone_0_ok 2 rfl) rfl rfl lc_R_pass lv_R_pass_ ml_R_129 rfl rfl rfl rfl (t_R_pass v0 (1735356005 : Int64) h) (fun _ h1 => ?_)
  refine q_aload_n (pc := 7) (dq D_R_readGone_0_ok 3 rfl) rfl 0 rfl ?_
  refine q_ic0 (pc := 8) (dq D_R_readGone_0_ok 4 rfl) ?_
  refine r_invI (Mc := M_R_readName) (pc := 9) (ci := 1) (rest := []) 2 1 [.int 0] (dq D_R_readGone_0_ok 5 rfl) rfl rfl lc_R_readName lv_R_readName_ ml_R_177 rfl rfl rfl rfl (t_R_readName v0 (0 : Int32) h1) (fun r4 h3 => ?_)
  refine q_istore_n (pc := 12) (ls' := [(1, .int r4), (0, .ref v0)]) (dq D_R_readGone_0_ok 6 rfl) rfl rfl rfl ?_
  refine q_aload_n (pc := 13) (dq D_R_readGone_0_ok 7 rfl) rfl 1 rfl ?_
  refine r_getI (pc := 14) (dq D_R_readGone_0_ok 8 rfl) fa_R_49 rfl (fun x5 => ?_)
  refine p_if_eq (pc := 17) 21 (dq D_R_readGone_0_ok 9 rfl) rfl ?_ ?_
  · refine q_aload_n (pc := 21) (dq D_R_readGone_0_ok 11 rfl) rfl 1 rfl ?_
    refine q_getR (pc := 22) (dq D_R_readGone_0_ok 12 rfl) fa_R_36 rfl (fun x6 => ?_)
    refine q_getR (pc := 25) (dq D_R_readGone_0_ok 13 rfl) fa_R_159 rfl (fun x7 => ?_)
    refine q_iload_n (pc := 28) (dq D_R_readGone_0_ok 14 rfl) rfl 0 rfl ?_
    refine r_aald (pc := 29) 4 (dq D_R_readGone_0_ok 15 rfl) rfl rfl (fun _ => rfl) (fun x8 => ?_)
    refine q_astore_n (pc := 30) (ls' := [(2, .ref x8), (1, .int r4), (0, .ref v0)]) (dq D_R_readGone_0_ok 16 rfl) rfl rfl rfl ?_
    refine q_aload_n (pc := 31) (dq D_R_readGone_0_ok 17 rfl) rfl 0 rfl ?_
    refine r_getI (pc := 32) (dq D_R_readGone_0_ok 18 rfl) fa_R_181 rfl (fun x9 => ?_)
    refine q_ic2 (pc := 35) (dq D_R_readGone_0_ok 19 rfl) ?_
    refine q_ic_lt (pc := 36) 48 (dq D_R_readGone_0_ok 20 rfl) rfl ?_ ?_
    · exact T.lsub [2, 1, 0] rfl (tb_R_readGone_48 v0 r4 x8 h3)
    · refine q_aload_n (pc := 39) (dq D_R_readGone_0_ok 21 rfl) rfl 2 rfl ?_
      refine q_ic5 (pc := 40) (dq D_R_readGone_0_ok 22 rfl) ?_
      refine q_aload_n (pc := 41) (dq D_R_readGone_0_ok 23 rfl) rfl 2 rfl ?_
      refine r_getI (pc := 42) (dq D_R_readGone_0_ok 24 rfl) fa_R_184 rfl (fun x10 => ?_)
      refine r_invU (Mc := M_R_fail) (pc := 45) (ci := 1) (rest := []) 0 2 [.int 5, .int x10] (dq D_R_readGone_0_ok 25 rfl) rfl rfl lc_R_fail lv_R_fail_ ml_R_73 rfl rfl rfl rfl (t_R_fail v0 (5 : Int32) x10 h3) (fun _ h11 => ?_)
      exact T.lsub [2, 1, 0] rfl (tb_R_readGone_48 v0 r4 x8 h11)
  · exact r_retu (pc := 20) (dq D_R_readGone_0_ok 10 rfl) rfl
noncomputable def f_O_feastTooth (v0 : Nat) (v1 : Int32) (v2 : Int32) (h : Hp) : Option (Int32 × Hp) := gd (hS h v0 = some (.inl 2)) (bR (hR h v0 5) fun x1 => gd (ai h x1 0 ((v1 * 5) + v2)) (lt (hI h x1 ((v1 * 5) + v2).toNatClampNeg) fun x2 => some (x2, h)))
set_option maxHeartbeats 4000000 in
set_option maxRecDepth 20000 in
theorem t_O_feastTooth {G : GG} (v0 : Nat) (v1 : Int32) (v2 : Int32) (h : Hp) : Mt G M_O_feastTooth 0 [.ref v0, .int v1, .int v2] cI h (f_O_feastTooth v0 v1 v2 h) := by
  refine Mt.ofF (by decide +kernel) rfl (Rt.i rfl rfl) ?_
  show T G M_O_feastTooth 0 cI 0 [(0, .ref v0), (1, .int v1), (2, .int v2)] [] h _
  unfold f_O_feastTooth
  refine q_aload_n (pc := 0) (dq D_O_feastTooth_0_ok 0 rfl) rfl 0 rfl ?_
  refine q_getR (pc := 1) (dq D_O_feastTooth_0_ok 1 rfl) fa_O_17 rfl (fun x1 => ?_)
  refine q_iload_n (pc := 4) (dq D_O_feastTooth_0_ok 2 rfl) rfl 1 rfl ?_
  refine q_ic5 (pc := 5) (dq D_O_feastTooth_0_ok 3 rfl) ?_
  refine q_imul (pc := 6) (dq D_O_feastTooth_0_ok 4 rfl) ?_
  refine q_iload_n (pc := 7) (dq D_O_feastTooth_0_ok 5 rfl) rfl 2 rfl ?_
  refine q_iadd (pc := 8) (dq D_O_feastTooth_0_ok 6 rfl) ?_
  refine r_iald (pc := 9) (dq D_O_feastTooth_0_ok 7 rfl) (fun x2 => ?_)
  exact r_reti (pc := 10) (dq D_O_feastTooth_0_ok 8 rfl) rfl
noncomputable def f_O_putFeastTooth (v0 : Nat) (v1 : Int32) (v2 : Int32) (v3 : Int32) (h : Hp) : Option (Unit × Hp) := gd (hS h v0 = some (.inl 2)) (bR (hR h v0 5) fun x1 => gd (ai h x1 0 ((v1 * 5) + v2)) (lt (uI h x1 ((v1 * 5) + v2).toNatClampNeg v3) fun h2 => some ((), h2)))
set_option maxHeartbeats 4000000 in
set_option maxRecDepth 20000 in
theorem t_O_putFeastTooth {G : GG} (v0 : Nat) (v1 : Int32) (v2 : Int32) (v3 : Int32) (h : Hp) : Mt G M_O_putFeastTooth 0 [.ref v0, .int v1, .int v2, .int v3] cU h (f_O_putFeastTooth v0 v1 v2 v3 h) := by
  refine Mt.ofF (by decide +kernel) rfl (Rt.v rfl rfl) ?_
  show T G M_O_putFeastTooth 0 cU 0 [(0, .ref v0), (1, .int v1), (2, .int v2), (3, .int v3)] [] h _
  unfold f_O_putFeastTooth
  refine q_aload_n (pc := 0) (dq D_O_putFeastTooth_0_ok 0 rfl) rfl 0 rfl ?_
  refine q_getR (pc := 1) (dq D_O_putFeastTooth_0_ok 1 rfl) fa_O_17 rfl (fun x1 => ?_)
  refine q_iload_n (pc := 4) (dq D_O_putFeastTooth_0_ok 2 rfl) rfl 1 rfl ?_
  refine q_ic5 (pc := 5) (dq D_O_putFeastTooth_0_ok 3 rfl) ?_
  refine q_imul (pc := 6) (dq D_O_putFeastTooth_0_ok 4 rfl) ?_
  refine q_iload_n (pc := 7) (dq D_O_putFeastTooth_0_ok 5 rfl) rfl 2 rfl ?_
  refine q_iadd (pc := 8) (dq D_O_putFeastTooth_0_ok 6 rfl) ?_
  refine q_iload_n (pc := 9) (dq D_O_putFeastTooth_0_ok 7 rfl) rfl 3 rfl ?_
  refine r_iast (pc := 10) (dq D_O_putFeastTooth_0_ok 8 rfl) (fun h2 => ?_)
  exact r_retu (pc := 11) (dq D_O_putFeastTooth_0_ok 9 rfl) rfl
noncomputable def b_R_readFeastWheel_42 (v0 : Nat) (v1 : Int32) (h : Hp) : Option (Unit × Hp) := gd (hS h v0 = some (.inl 1)) (bd (f_R_pass v0 (24948 : Int64) h) fun _ h1 => gd (hS h1 v0 = some (.inl 1)) (bR (hR h1 v0 2) fun x3 => gd (hS h1 x3 = some (.inl 2)) (bR (hR h1 x3 3) fun x4 => gd (ai h1 x4 4 v1) (bR (hR h1 x4 v1.toNatClampNeg) fun x5 => gd (hS h1 x5 = some (.inl 3)) (lt (hI h1 x5 1) fun x6 => gd (hS h1 v0 = some (.inl 1)) (bd (f_R_readWhole v0 (0 : Int32) (x6 - 1) h1) fun r8 h7 => gd (hS h7 v0 = some (.inl 1)) (lt (hI h7 v0 4) fun x9 => if x9 = 0 then (gd (hS h7 v0 = some (.inl 1)) (bR (hR h7 v0 2) fun x10 => gd (hS h7 v0 = some (.inl 1)) (bR (hR h7 v0 2) fun x11 => gd (hS h7 x11 = some (.inl 2)) (lt (hI h7 x11 4) fun x12 => gd (hS h7 x10 = some (.inl 2)) (bd (f_O_putFeastTooth x10 x12 v1 r8 h7) fun _ h13 => some ((), h13)))))) else (some ((), h7)))))))))
set_option maxHeartbeats 4000000 in
set_option maxRecDepth 20000 in
theorem tb_R_readFeastWheel_42 {G : GG} (v0 : Nat) (v1 : Int32) (h : Hp) : T G M_R_readFeastWheel 3 cU 42 [(0, .ref v0), (1, .int v1)] [] h (b_R_readFeastWheel_42 v0 v1 h) := by
  unfold b_R_readFeastWheel_42
  refine q_aload_n (pc := 42) (dq D_R_readFeastWheel_0_ok 22 rfl) rfl 0 rfl ?_
  refine q_ldc2 (pc := 43) (v := 24948) (dq D_R_readFeastWheel_0_ok 23 rfl) lk_R_157 ?_
  refine r_invU (Mc := M_R_pass) (pc := 46) (ci := 1) (rest := []) 2 1 [.long 24948] (dq D_R_readFeastWheel_0_ok 24 rfl) rfl rfl lc_R_pass lv_R_pass_ ml_R_129 rfl rfl rfl rfl (t_R_pass v0 (24948 : Int64) h) (fun _ h1 => ?_)
  refine q_aload_n (pc := 49) (dq D_R_readFeastWheel_0_ok 25 rfl) rfl 0 rfl ?_
  refine q_ic0 (pc := 50) (dq D_R_readFeastWheel_0_ok 26 rfl) ?_
  refine q_aload_n (pc := 51) (dq D_R_readFeastWheel_0_ok 27 rfl) rfl 0 rfl ?_
  refine q_getR (pc := 52) (dq D_R_readFeastWheel_0_ok 28 rfl) fa_R_36 rfl (fun x3 => ?_)
  refine q_getR (pc := 55) (dq D_R_readFeastWheel_0_ok 29 rfl) fa_R_159 rfl (fun x4 => ?_)
  refine q_iload_n (pc := 58) (dq D_R_readFeastWheel_0_ok 30 rfl) rfl 1 rfl ?_
  refine r_aald (pc := 59) 4 (dq D_R_readFeastWheel_0_ok 31 rfl) rfl rfl (fun _ => rfl) (fun x5 => ?_)
  refine r_getI (pc := 60) (dq D_R_readFeastWheel_0_ok 32 rfl) fa_R_190 rfl (fun x6 => ?_)
  refine q_ic1 (pc := 63) (dq D_R_readFeastWheel_0_ok 33 rfl) ?_
  refine q_isub (pc := 64) (dq D_R_readFeastWheel_0_ok 34 rfl) ?_
  refine r_invI (Mc := M_R_readWhole) (pc := 65) (ci := 1) (rest := []) 2 2 [.int 0, .int (x6 - 1)] (dq D_R_readFeastWheel_0_ok 35 rfl) rfl rfl lc_R_readWhole lv_R_readWhole_ ml_R_135 rfl rfl rfl rfl (t_R_readWhole v0 (0 : Int32) (x6 - 1) h1) (fun r8 h7 => ?_)
  refine q_istore_n (pc := 68) (ls' := [(2, .int r8), (0, .ref v0), (1, .int v1)]) (dq D_R_readFeastWheel_0_ok 36 rfl) rfl rfl rfl ?_
  refine q_aload_n (pc := 69) (dq D_R_readFeastWheel_0_ok 37 rfl) rfl 1 rfl ?_
  refine r_getI (pc := 70) (dq D_R_readFeastWheel_0_ok 38 rfl) fa_R_49 rfl (fun x9 => ?_)
  refine p_if_ne (pc := 73) 92 (dq D_R_readFeastWheel_0_ok 39 rfl) rfl ?_ ?_
  · exact r_retu (pc := 92) (dq D_R_readFeastWheel_0_ok 48 rfl) rfl
  · refine q_aload_n (pc := 76) (dq D_R_readFeastWheel_0_ok 40 rfl) rfl 1 rfl ?_
    refine q_getR (pc := 77) (dq D_R_readFeastWheel_0_ok 41 rfl) fa_R_36 rfl (fun x10 => ?_)
    refine q_aload_n (pc := 80) (dq D_R_readFeastWheel_0_ok 42 rfl) rfl 1 rfl ?_
    refine q_getR (pc := 81) (dq D_R_readFeastWheel_0_ok 43 rfl) fa_R_36 rfl (fun x11 => ?_)
    refine r_getI (pc := 84) (dq D_R_readFeastWheel_0_ok 44 rfl) fa_R_201 rfl (fun x12 => ?_)
    refine q_iload_n (pc := 87) (dq D_R_readFeastWheel_0_ok 45 rfl) rfl 2 rfl ?_
    refine q_iload_n (pc := 88) (dq D_R_readFeastWheel_0_ok 46 rfl) rfl 0 rfl ?_
    refine r_invU (Mc := M_O_putFeastTooth) (pc := 89) (ci := 2) (rest := []) 0 3 [.int x12, .int v1, .int r8] (dq D_R_readFeastWheel_0_ok 47 rfl) rfl rfl lc_O_putFeastTooth lv_O_putFeastTooth_ ml_R_210 rfl rfl rfl rfl (t_O_putFeastTooth x10 x12 v1 r8 h7) (fun _ h13 => ?_)
    exact r_retu (pc := 92) (dq D_R_readFeastWheel_0_ok 48 rfl) rfl
noncomputable def f_R_readFeastWheel (v0 : Nat) (h : Hp) : Option (Unit × Hp) := gd (hS h v0 = some (.inl 1)) (bd (f_R_readName v0 (0 : Int32) h) fun r2 h1 => gd (hS h1 v0 = some (.inl 1)) (lt (hI h1 v0 4) fun x3 => if x3 = 0 then (gd (hS h1 v0 = some (.inl 1)) (bR (hR h1 v0 2) fun x4 => gd (hS h1 v0 = some (.inl 1)) (bR (hR h1 v0 2) fun x5 => gd (hS h1 x5 = some (.inl 2)) (lt (hI h1 x5 4) fun x6 => gd (hS h1 x4 = some (.inl 2)) (bd (f_O_feastTooth x4 x6 r2 h1) fun r8 h7 => if r8 = ((-1)) then (b_R_readFeastWheel_42 v0 r2 h7) else (gd (hS h7 v0 = some (.inl 1)) (lt (hI h7 v0 11) fun x9 => gd (hS h7 v0 = some (.inl 1)) (bd (f_R_fail v0 (3 : Int32) x9 h7) fun _ h10 => b_R_readFeastWheel_42 v0 r2 h10)))))))) else (some ((), h1))))
set_option maxHeartbeats 4000000 in
set_option maxRecDepth 20000 in
theorem t_R_readFeastWheel {G : GG} (v0 : Nat) (h : Hp) : Mt G M_R_readFeastWheel 3 [.ref v0] cU h (f_R_readFeastWheel v0 h) := by
  refine Mt.ofF (by decide +kernel) rfl (Rt.v rfl rfl) ?_
  show T G M_R_readFeastWheel 3 cU 0 [(0, .ref v0)] [] h _
  unfold f_R_readFeastWheel
  refine q_aload_n (pc := 0) (dq D_R_readFeastWheel_0_ok 0 rfl) rfl 0 rfl ?_
  refine q_ic0 (pc := 1) (dq D_R_readFeastWheel_0_ok 1 rfl) ?_
  refine r_invI (Mc := M_R_readName) (pc := 2) (ci := 1) (rest := []) 2 1 [.int 0] (dq D_R_readFeastWheel_0_ok 2 rfl) rfl rfl lc_R_readName lv_R_readName_ ml_R_177 rfl rfl rfl rfl (t_R_readName v0 (0 : Int32) h) (fun r2 h1 => ?_)
  refine q_istore_n (pc := 5) (ls' := [(1, .int r2), (0, .ref v0)]) (dq D_R_readFeastWheel_0_ok 3 rfl) rfl rfl rfl ?_
  refine q_aload_n (pc := 6) (dq D_R_readFeastWheel_0_ok 4 rfl) rfl 1 rfl ?_
  refine r_getI (pc := 7) (dq D_R_readFeastWheel_0_ok 5 rfl) fa_R_49 rfl (fun x3 => ?_)
  refine p_if_eq (pc := 10) 14 (dq D_R_readFeastWheel_0_ok 6 rfl) rfl ?_ ?_
  · refine q_aload_n (pc := 14) (dq D_R_readFeastWheel_0_ok 8 rfl) rfl 1 rfl ?_
    refine q_getR (pc := 15) (dq D_R_readFeastWheel_0_ok 9 rfl) fa_R_36 rfl (fun x4 => ?_)
    refine q_aload_n (pc := 18) (dq D_R_readFeastWheel_0_ok 10 rfl) rfl 1 rfl ?_
    refine q_getR (pc := 19) (dq D_R_readFeastWheel_0_ok 11 rfl) fa_R_36 rfl (fun x5 => ?_)
    refine r_getI (pc := 22) (dq D_R_readFeastWheel_0_ok 12 rfl) fa_R_201 rfl (fun x6 => ?_)
    refine q_iload_n (pc := 25) (dq D_R_readFeastWheel_0_ok 13 rfl) rfl 0 rfl ?_
    refine r_invI (Mc := M_O_feastTooth) (pc := 26) (ci := 2) (rest := []) 0 2 [.int x6, .int r2] (dq D_R_readFeastWheel_0_ok 14 rfl) rfl rfl lc_O_feastTooth lv_O_feastTooth_ ml_R_207 rfl rfl rfl rfl (t_O_feastTooth x4 x6 r2 h1) (fun r8 h7 => ?_)
    refine q_icm1 (pc := 29) (dq D_R_readFeastWheel_0_ok 15 rfl) ?_
    refine q_ic_eq (pc := 30) 42 (dq D_R_readFeastWheel_0_ok 16 rfl) rfl ?_ ?_
    · exact T.lsub [1, 0] rfl (tb_R_readFeastWheel_42 v0 r2 h7)
    · refine q_aload_n (pc := 33) (dq D_R_readFeastWheel_0_ok 17 rfl) rfl 1 rfl ?_
      refine q_ic3 (pc := 34) (dq D_R_readFeastWheel_0_ok 18 rfl) ?_
      refine q_aload_n (pc := 35) (dq D_R_readFeastWheel_0_ok 19 rfl) rfl 1 rfl ?_
      refine r_getI (pc := 36) (dq D_R_readFeastWheel_0_ok 20 rfl) fa_R_184 rfl (fun x9 => ?_)
      refine r_invU (Mc := M_R_fail) (pc := 39) (ci := 1) (rest := []) 0 2 [.int 3, .int x9] (dq D_R_readFeastWheel_0_ok 21 rfl) rfl rfl lc_R_fail lv_R_fail_ ml_R_73 rfl rfl rfl rfl (t_R_fail v0 (3 : Int32) x9 h7) (fun _ h10 => ?_)
      exact T.lsub [1, 0] rfl (tb_R_readFeastWheel_42 v0 r2 h10)
  · exact r_retu (pc := 13) (dq D_R_readFeastWheel_0_ok 7 rfl) rfl
noncomputable def b_R_readFeast_82 (v0 : Nat) (h : Hp) : Option (Unit × Hp) := gd (hS h v0 = some (.inl 1)) (lt (hI h v0 4) fun x1 => if x1 = 0 then (gd (hS h v0 = some (.inl 1)) (bR (hR h v0 2) fun x2 => gd (hS h x2 = some (.inl 2)) (lt (hI h x2 4) fun x3 => gd (hS h x2 = some (.inl 2)) (lt (uI h x2 4 (x3 + 1)) fun h4 => some ((), h4))))) else (some ((), h)))
set_option maxHeartbeats 4000000 in
set_option maxRecDepth 20000 in
theorem tb_R_readFeast_82 {G : GG} (v0 : Nat) (h : Hp) : T G M_R_readFeast 4 cU 82 [(0, .ref v0)] [] h (b_R_readFeast_82 v0 h) := by
  unfold b_R_readFeast_82
  refine q_aload_n (pc := 82) (dq D_R_readFeast_0_ok 40 rfl) rfl 0 rfl ?_
  refine r_getI (pc := 83) (dq D_R_readFeast_0_ok 41 rfl) fa_R_49 rfl (fun x1 => ?_)
  refine p_if_ne (pc := 86) 102 (dq D_R_readFeast_0_ok 42 rfl) rfl ?_ ?_
  · exact r_retu (pc := 102) (dq D_R_readFeast_0_ok 50 rfl) rfl
  · refine q_aload_n (pc := 89) (dq D_R_readFeast_0_ok 43 rfl) rfl 0 rfl ?_
    refine q_getR (pc := 90) (dq D_R_readFeast_0_ok 44 rfl) fa_R_36 rfl (fun x2 => ?_)
    refine q_dup (pc := 93) (dq D_R_readFeast_0_ok 45 rfl) rfl ?_
    refine r_getI (pc := 94) (dq D_R_readFeast_0_ok 46 rfl) fa_R_201 rfl (fun x3 => ?_)
    refine q_ic1 (pc := 97) (dq D_R_readFeast_0_ok 47 rfl) ?_
    refine q_iadd (pc := 98) (dq D_R_readFeast_0_ok 48 rfl) ?_
    refine r_putI (pc := 99) (dq D_R_readFeast_0_ok 49 rfl) fp_R_201 rfl rfl (fun h4 => ?_)
    exact r_retu (pc := 102) (dq D_R_readFeast_0_ok 50 rfl) rfl
noncomputable def b_R_readFeast_45 (k45 : (Nat × Int32) → Hp → Option (Unit × Hp)) (v0 : Nat) (v1 : Int32) (h : Hp) : Option (Unit × Hp) := gd (hS h v0 = some (.inl 1)) (lt (hI h v0 1) fun x1 => if x1 ≤ v1 then (b_R_readFeast_82 v0 h) else (gd (hS h v0 = some (.inl 1)) (lt (hI h v0 4) fun x2 => if x2 = 0 then (gd (hS h v0 = some (.inl 1)) (lt (hI h v0 8) fun x3 => if x3 = 4 then (gd (hS h v0 = some (.inl 1)) (bd (f_R_step v0 h) fun _ h4 => gd (hS h4 v0 = some (.inl 1)) (bd (f_R_readFeastWheel v0 h4) fun _ h6 => k45 (v0, v1 + 1) h6))) else (b_R_readFeast_82 v0 h))) else (b_R_readFeast_82 v0 h))))
set_option maxHeartbeats 4000000 in
set_option maxRecDepth 20000 in
theorem tb_R_readFeast_45 {G : GG} {k45 : (Nat × Int32) → Hp → Option (Unit × Hp)} (hk45 : ∀ s h, T G M_R_readFeast 4 cU 45 [(0, .ref s.1), (1, .int s.2)] [] h (k45 s h)) (v0 : Nat) (v1 : Int32) (h : Hp) : T G M_R_readFeast 4 cU 45 [(0, .ref v0), (1, .int v1)] [] h (b_R_readFeast_45 k45 v0 v1 h) := by
  unfold b_R_readFeast_45
  refine q_iload_n (pc := 45) (dq D_R_readFeast_0_ok 23 rfl) rfl 1 rfl ?_
  refine q_aload_n (pc := 46) (dq D_R_readFeast_0_ok 24 rfl) rfl 0 rfl ?_
  refine r_getI (pc := 47) (dq D_R_readFeast_0_ok 25 rfl) fa_R_32 rfl (fun x1 => ?_)
  refine q_ic_ge (pc := 50) 82 (dq D_R_readFeast_0_ok 26 rfl) rfl ?_ ?_
  · exact T.lsub [0] rfl (tb_R_readFeast_82 v0 h)
  · refine q_aload_n (pc := 53) (dq D_R_readFeast_0_ok 27 rfl) rfl 0 rfl ?_
    refine r_getI (pc := 54) (dq D_R_readFeast_0_ok 28 rfl) fa_R_49 rfl (fun x2 => ?_)
    refine p_if_ne (pc := 57) 82 (dq D_R_readFeast_0_ok 29 rfl) rfl ?_ ?_
    · exact T.lsub [0] rfl (tb_R_readFeast_82 v0 h)
    · refine q_aload_n (pc := 60) (dq D_R_readFeast_0_ok 30 rfl) rfl 0 rfl ?_
      refine r_getI (pc := 61) (dq D_R_readFeast_0_ok 31 rfl) fa_R_67 rfl (fun x3 => ?_)
      refine q_ic4 (pc := 64) (dq D_R_readFeast_0_ok 32 rfl) ?_
      refine q_ic_ne (pc := 65) 82 (dq D_R_readFeast_0_ok 33 rfl) rfl ?_ ?_
      · exact T.lsub [0] rfl (tb_R_readFeast_82 v0 h)
      · refine q_aload_n (pc := 68) (dq D_R_readFeast_0_ok 34 rfl) rfl 0 rfl ?_
        refine r_invU (Mc := M_R_step) (pc := 69) (ci := 1) (rest := []) 1 0 [] (dq D_R_readFeast_0_ok 35 rfl) rfl rfl lc_R_step lv_R_step_ ml_R_61 rfl rfl rfl rfl (t_R_step v0 h) (fun _ h4 => ?_)
        refine q_aload_n (pc := 72) (dq D_R_readFeast_0_ok 36 rfl) rfl 0 rfl ?_
        refine r_invU (Mc := M_R_readFeastWheel) (pc := 73) (ci := 1) (rest := []) 3 0 [] (dq D_R_readFeast_0_ok 37 rfl) rfl rfl lc_R_readFeastWheel lv_R_readFeastWheel_ ml_R_204 rfl rfl rfl rfl (t_R_readFeastWheel v0 h4) (fun _ h6 => ?_)
        refine q_iinc (pc := 76) (v := (1)) (ls' := [(1, .int (v1 + 1)), (0, .ref v0)]) (dq D_R_readFeast_0_ok 38 rfl) 1 rfl (by decide) rfl rfl ?_
        refine q_goto (pc := 79) 45 (dq D_R_readFeast_0_ok 39 rfl) rfl ?_
        exact T.lsub [1, 0] rfl (hk45 (v0, v1 + 1) h6)
noncomputable def l_R_readFeast_45 : Nat → (Nat × Int32) → Hp → Option (Unit × Hp) := lp (fun k45 s h => b_R_readFeast_45 k45 s.1 s.2 h)
set_option maxHeartbeats 4000000 in
set_option maxRecDepth 20000 in
theorem tl_R_readFeast_45 {G : GG} (n : Nat) (s : Nat × Int32) (h : Hp) : T G M_R_readFeast 4 cU 45 [(0, .ref s.1), (1, .int s.2)] [] h (l_R_readFeast_45 n s h) :=
  T.loop (lsOf := fun s => [(0, .ref s.1), (1, .int s.2)]) (fun k45 hk45 s h => tb_R_readFeast_45 hk45 s.1 s.2 h) n s h
noncomputable def b_R_readFeast_20 (v0 : Nat) (h : Hp) : Option (Unit × Hp) := gd (hS h v0 = some (.inl 1)) (bd (f_R_pass v0 (439787549556 : Int64) h) fun _ h1 => gd (hS h1 v0 = some (.inl 1)) (bR (hR h1 v0 2) fun x3 => gd (hS h1 x3 = some (.inl 2)) (lt (hI h1 x3 4) fun x4 => gd (hS h1 v0 = some (.inl 1)) (bd (f_R_tellName v0 (1 : Int32) x4 h1) fun _ h5 => gd (hS h5 v0 = some (.inl 1)) (bd (f_R_readFeastWheel v0 h5) fun _ h7 => lt (0 : Int32) fun y9 => l_R_readFeast_45 FU (v0, y9) h7)))))
set_option maxHeartbeats 4000000 in
set_option maxRecDepth 20000 in
theorem tb_R_readFeast_20 {G : GG} (v0 : Nat) (h : Hp) : T G M_R_readFeast 4 cU 20 [(0, .ref v0)] [] h (b_R_readFeast_20 v0 h) := by
  unfold b_R_readFeast_20
  refine q_aload_n (pc := 20) (dq D_R_readFeast_0_ok 10 rfl) rfl 0 rfl ?_
  refine q_ldc2 (pc := 21) (v := 439787549556) (dq D_R_readFeast_0_ok 11 rfl) lk_R_103 ?_
  refine r_invU (Mc := M_R_pass) (pc := 24) (ci := 1) (rest := []) 2 1 [.long 439787549556] (dq D_R_readFeast_0_ok 12 rfl) rfl rfl lc_R_pass lv_R_pass_ ml_R_129 rfl rfl rfl rfl (t_R_pass v0 (439787549556 : Int64) h) (fun _ h1 => ?_)
  refine q_aload_n (pc := 27) (dq D_R_readFeast_0_ok 13 rfl) rfl 0 rfl ?_
  refine q_ic1 (pc := 28) (dq D_R_readFeast_0_ok 14 rfl) ?_
  refine q_aload_n (pc := 29) (dq D_R_readFeast_0_ok 15 rfl) rfl 0 rfl ?_
  refine q_getR (pc := 30) (dq D_R_readFeast_0_ok 16 rfl) fa_R_36 rfl (fun x3 => ?_)
  refine r_getI (pc := 33) (dq D_R_readFeast_0_ok 17 rfl) fa_R_201 rfl (fun x4 => ?_)
  refine r_invU (Mc := M_R_tellName) (pc := 36) (ci := 1) (rest := []) 2 2 [.int 1, .int x4] (dq D_R_readFeast_0_ok 18 rfl) rfl rfl lc_R_tellName lv_R_tellName_ ml_R_146 rfl rfl rfl rfl (t_R_tellName v0 (1 : Int32) x4 h1) (fun _ h5 => ?_)
  refine q_aload_n (pc := 39) (dq D_R_readFeast_0_ok 19 rfl) rfl 0 rfl ?_
  refine r_invU (Mc := M_R_readFeastWheel) (pc := 40) (ci := 1) (rest := []) 3 0 [] (dq D_R_readFeast_0_ok 20 rfl) rfl rfl lc_R_readFeastWheel lv_R_readFeastWheel_ ml_R_204 rfl rfl rfl rfl (t_R_readFeastWheel v0 h5) (fun _ h7 => ?_)
  refine q_ic0 (pc := 43) (dq D_R_readFeast_0_ok 21 rfl) ?_
  refine r_nmI (fun y9 => ?_)
  refine q_istore_n (pc := 44) (ls' := [(1, .int y9), (0, .ref v0)]) (dq D_R_readFeast_0_ok 22 rfl) rfl rfl rfl ?_
  exact T.lsub [1, 0] rfl (tl_R_readFeast_45 FU (v0, y9) h7)
noncomputable def f_R_readFeast (v0 : Nat) (h : Hp) : Option (Unit × Hp) := gd (hS h v0 = some (.inl 1)) (bR (hR h v0 2) fun x1 => gd (hS h x1 = some (.inl 2)) (lt (hI h x1 4) fun x2 => if x2 < 4 then (b_R_readFeast_20 v0 h) else (gd (hS h v0 = some (.inl 1)) (lt (hI h v0 6) fun x3 => gd (hS h v0 = some (.inl 1)) (bd (f_R_fail v0 (5 : Int32) x3 h) fun _ h4 => b_R_readFeast_20 v0 h4)))))
set_option maxHeartbeats 4000000 in
set_option maxRecDepth 20000 in
theorem t_R_readFeast {G : GG} (v0 : Nat) (h : Hp) : Mt G M_R_readFeast 4 [.ref v0] cU h (f_R_readFeast v0 h) := by
  refine Mt.ofF (by decide +kernel) rfl (Rt.v rfl rfl) ?_
  show T G M_R_readFeast 4 cU 0 [(0, .ref v0)] [] h _
  unfold f_R_readFeast
  refine q_aload_n (pc := 0) (dq D_R_readFeast_0_ok 0 rfl) rfl 0 rfl ?_
  refine q_getR (pc := 1) (dq D_R_readFeast_0_ok 1 rfl) fa_R_36 rfl (fun x1 => ?_)
  refine r_getI (pc := 4) (dq D_R_readFeast_0_ok 2 rfl) fa_R_201 rfl (fun x2 => ?_)
  refine q_ic4 (pc := 7) (dq D_R_readFeast_0_ok 3 rfl) ?_
  refine q_ic_lt (pc := 8) 20 (dq D_R_readFeast_0_ok 4 rfl) rfl ?_ ?_
  · exact T.lsub [0] rfl (tb_R_readFeast_20 v0 h)
  · refine q_aload_n (pc := 11) (dq D_R_readFeast_0_ok 5 rfl) rfl 0 rfl ?_
    refine q_ic5 (pc := 12) (dq D_R_readFeast_0_ok 6 rfl) ?_
    refine q_aload_n (pc := 13) (dq D_R_readFeast_0_ok 7 rfl) rfl 0 rfl ?_
    refine r_getI (pc := 14) (dq D_R_readFeast_0_ok 8 rfl) fa_R_70 rfl (fun x3 => ?_)
    refine r_invU (Mc := M_R_fail) (pc := 17) (ci := 1) (rest := []) 0 2 [.int 5, .int x3] (dq D_R_readFeast_0_ok 9 rfl) rfl rfl lc_R_fail lv_R_fail_ ml_R_73 rfl rfl rfl rfl (t_R_fail v0 (5 : Int32) x3 h) (fun _ h4 => ?_)
    exact T.lsub [0] rfl (tb_R_readFeast_20 v0 h4)
noncomputable def b_R_readWork_22 (v0 : Nat) (v1 : Int32) (h : Hp) : Option (Unit × Hp) := gd (hS h v0 = some (.inl 1)) (bd (f_R_pass v0 (2003792491 : Int64) h) fun _ h1 => gd (hS h1 v0 = some (.inl 1)) (bd (f_R_tellName v0 (2 : Int32) v1 h1) fun _ h3 => gd (hS h3 v0 = some (.inl 1)) (bd (f_R_pass v0 (499850634611 : Int64) h3) fun _ h5 => gd (hS h5 v0 = some (.inl 1)) (bd (f_R_readWhole v0 (1 : Int32) (99 : Int32) h5) fun r8 h7 => gd (hS h7 v0 = some (.inl 1)) (bd (f_R_pass v0 (512970880104 : Int64) h7) fun _ h9 => gd (hS h9 v0 = some (.inl 1)) (bd (f_R_readWhole v0 (0 : Int32) (99 : Int32) h9) fun r12 h11 => gd (hS h11 v0 = some (.inl 1)) (bd (f_R_pass v0 (25209 : Int64) h11) fun _ h13 => gd (hS h13 v0 = some (.inl 1)) (bd (f_R_readName v0 (1 : Int32) h13) fun r16 h15 => gd (hS h15 v0 = some (.inl 1)) (lt (hI h15 v0 4) fun x17 => if x17 = 0 then (gd (hS h15 v0 = some (.inl 1)) (bR (hR h15 v0 2) fun x18 => gd (hS h15 x18 = some (.inl 2)) (bR (hR h15 x18 7) fun x19 => gd (ai h15 x19 0 v1) (lt (uI h15 x19 v1.toNatClampNeg r8) fun h20 => gd (hS h20 v0 = some (.inl 1)) (bR (hR h20 v0 2) fun x21 => gd (hS h20 x21 = some (.inl 2)) (bR (hR h20 x21 8) fun x22 => gd (ai h20 x22 0 v1) (lt (uI h20 x22 v1.toNatClampNeg r12) fun h23 => gd (hS h23 v0 = some (.inl 1)) (bR (hR h23 v0 2) fun x24 => gd (hS h23 x24 = some (.inl 2)) (bR (hR h23 x24 9) fun x25 => gd (ai h23 x25 0 v1) (lt (uI h23 x25 v1.toNatClampNeg r16) fun h26 => gd (hS h26 v0 = some (.inl 1)) (bR (hR h26 v0 2) fun x27 => gd (hS h26 x27 = some (.inl 2)) (lt (hI h26 x27 6) fun x28 => gd (hS h26 x27 = some (.inl 2)) (lt (uI h26 x27 6 (x28 + 1)) fun h29 => some ((), h29)))))))))))))) else (some ((), h15)))))))))))
set_option maxHeartbeats 4000000 in
set_option maxRecDepth 20000 in
theorem tb_R_readWork_22 {G : GG} (v0 : Nat) (v1 : Int32) (h : Hp) : T G M_R_readWork 3 cU 22 [(0, .ref v0), (1, .int v1)] [] h (b_R_readWork_22 v0 v1 h) := by
  unfold b_R_readWork_22
  refine q_aload_n (pc := 22) (dq D_R_readWork_0_ok 12 rfl) rfl 0 rfl ?_
  refine q_ldc2 (pc := 23) (v := 2003792491) (dq D_R_readWork_0_ok 13 rfl) lk_R_108 ?_
  refine r_invU (Mc := M_R_pass) (pc := 26) (ci := 1) (rest := []) 2 1 [.long 2003792491] (dq D_R_readWork_0_ok 14 rfl) rfl rfl lc_R_pass lv_R_pass_ ml_R_129 rfl rfl rfl rfl (t_R_pass v0 (2003792491 : Int64) h) (fun _ h1 => ?_)
  refine q_aload_n (pc := 29) (dq D_R_readWork_0_ok 15 rfl) rfl 0 rfl ?_
  refine q_ic2 (pc := 30) (dq D_R_readWork_0_ok 16 rfl) ?_
  refine q_iload_n (pc := 31) (dq D_R_readWork_0_ok 17 rfl) rfl 1 rfl ?_
  refine r_invU (Mc := M_R_tellName) (pc := 32) (ci := 1) (rest := []) 2 2 [.int 2, .int v1] (dq D_R_readWork_0_ok 18 rfl) rfl rfl lc_R_tellName lv_R_tellName_ ml_R_146 rfl rfl rfl rfl (t_R_tellName v0 (2 : Int32) v1 h1) (fun _ h3 => ?_)
  refine q_aload_n (pc := 35) (dq D_R_readWork_0_ok 19 rfl) rfl 0 rfl ?_
  refine q_ldc2 (pc := 36) (v := 499850634611) (dq D_R_readWork_0_ok 20 rfl) lk_R_217 ?_
  refine r_invU (Mc := M_R_pass) (pc := 39) (ci := 1) (rest := []) 2 1 [.long 499850634611] (dq D_R_readWork_0_ok 21 rfl) rfl rfl lc_R_pass lv_R_pass_ ml_R_129 rfl rfl rfl rfl (t_R_pass v0 (499850634611 : Int64) h3) (fun _ h5 => ?_)
  refine q_aload_n (pc := 42) (dq D_R_readWork_0_ok 22 rfl) rfl 0 rfl ?_
  refine q_ic1 (pc := 43) (dq D_R_readWork_0_ok 23 rfl) ?_
  refine q_bipush (pc := 44) (v := 99) (dq D_R_readWork_0_ok 24 rfl) (by decide) ?_
  refine r_invI (Mc := M_R_readWhole) (pc := 46) (ci := 1) (rest := []) 2 2 [.int 1, .int 99] (dq D_R_readWork_0_ok 25 rfl) rfl rfl lc_R_readWhole lv_R_readWhole_ ml_R_135 rfl rfl rfl rfl (t_R_readWhole v0 (1 : Int32) (99 : Int32) h5) (fun r8 h7 => ?_)
  refine q_istore_n (pc := 49) (ls' := [(2, .int r8), (0, .ref v0), (1, .int v1)]) (dq D_R_readWork_0_ok 26 rfl) rfl rfl rfl ?_
  refine q_aload_n (pc := 50) (dq D_R_readWork_0_ok 27 rfl) rfl 1 rfl ?_
  refine q_ldc2 (pc := 51) (v := 512970880104) (dq D_R_readWork_0_ok 28 rfl) lk_R_219 ?_
  refine r_invU (Mc := M_R_pass) (pc := 54) (ci := 1) (rest := []) 2 1 [.long 512970880104] (dq D_R_readWork_0_ok 29 rfl) rfl rfl lc_R_pass lv_R_pass_ ml_R_129 rfl rfl rfl rfl (t_R_pass v0 (512970880104 : Int64) h7) (fun _ h9 => ?_)
  refine q_aload_n (pc := 57) (dq D_R_readWork_0_ok 30 rfl) rfl 1 rfl ?_
  refine q_ic0 (pc := 58) (dq D_R_readWork_0_ok 31 rfl) ?_
  refine q_bipush (pc := 59) (v := 99) (dq D_R_readWork_0_ok 32 rfl) (by decide) ?_
  refine r_invI (Mc := M_R_readWhole) (pc := 61) (ci := 1) (rest := []) 2 2 [.int 0, .int 99] (dq D_R_readWork_0_ok 33 rfl) rfl rfl lc_R_readWhole lv_R_readWhole_ ml_R_135 rfl rfl rfl rfl (t_R_readWhole v0 (0 : Int32) (99 : Int32) h9) (fun r12 h11 => ?_)
  refine q_istore_n (pc := 64) (ls' := [(3, .int r12), (2, .int r8), (0, .ref v0), (1, .int v1)]) (dq D_R_readWork_0_ok 34 rfl) rfl rfl rfl ?_
  refine q_aload_n (pc := 65) (dq D_R_readWork_0_ok 35 rfl) rfl 2 rfl ?_
  refine q_ldc2 (pc := 66) (v := 25209) (dq D_R_readWork_0_ok 36 rfl) lk_R_155 ?_
  refine r_invU (Mc := M_R_pass) (pc := 69) (ci := 1) (rest := []) 2 1 [.long 25209] (dq D_R_readWork_0_ok 37 rfl) rfl rfl lc_R_pass lv_R_pass_ ml_R_129 rfl rfl rfl rfl (t_R_pass v0 (25209 : Int64) h11) (fun _ h13 => ?_)
  refine q_aload_n (pc := 72) (dq D_R_readWork_0_ok 38 rfl) rfl 2 rfl ?_
  refine q_ic1 (pc := 73) (dq D_R_readWork_0_ok 39 rfl) ?_
  refine r_invI (Mc := M_R_readName) (pc := 74) (ci := 1) (rest := []) 2 1 [.int 1] (dq D_R_readWork_0_ok 40 rfl) rfl rfl lc_R_readName lv_R_readName_ ml_R_177 rfl rfl rfl rfl (t_R_readName v0 (1 : Int32) h13) (fun r16 h15 => ?_)
  refine q_istore (pc := 77) (ls' := [(4, .int r16), (3, .int r12), (2, .int r8), (0, .ref v0), (1, .int v1)]) (dq D_R_readWork_0_ok 41 rfl) rfl rfl ?_
  refine q_aload_n (pc := 79) (dq D_R_readWork_0_ok 42 rfl) rfl 3 rfl ?_
  refine r_getI (pc := 80) (dq D_R_readWork_0_ok 43 rfl) fa_R_49 rfl (fun x17 => ?_)
  refine p_if_ne (pc := 83) 130 (dq D_R_readWork_0_ok 44 rfl) rfl ?_ ?_
  · exact r_retu (pc := 130) (dq D_R_readWork_1_ok 10 rfl) rfl
  · refine q_aload_n (pc := 86) (dq D_R_readWork_0_ok 45 rfl) rfl 3 rfl ?_
    refine q_getR (pc := 87) (dq D_R_readWork_0_ok 46 rfl) fa_R_36 rfl (fun x18 => ?_)
    refine q_getR (pc := 90) (dq D_R_readWork_0_ok 47 rfl) fa_R_221 rfl (fun x19 => ?_)
    refine q_iload_n (pc := 93) (dq D_R_readWork_0_ok 48 rfl) rfl 4 rfl ?_
    refine q_iload_n (pc := 94) (dq D_R_readWork_0_ok 49 rfl) rfl 2 rfl ?_
    refine r_iast (pc := 95) (dq D_R_readWork_0_ok 50 rfl) (fun h20 => ?_)
    refine q_aload_n (pc := 96) (dq D_R_readWork_0_ok 51 rfl) rfl 3 rfl ?_
    refine q_getR (pc := 97) (dq D_R_readWork_0_ok 52 rfl) fa_R_36 rfl (fun x21 => ?_)
    refine q_getR (pc := 100) (dq D_R_readWork_0_ok 53 rfl) fa_R_224 rfl (fun x22 => ?_)
    refine q_iload_n (pc := 103) (dq D_R_readWork_0_ok 54 rfl) rfl 4 rfl ?_
    refine q_iload_n (pc := 104) (dq D_R_readWork_0_ok 55 rfl) rfl 1 rfl ?_
    refine r_iast (pc := 105) (dq D_R_readWork_0_ok 56 rfl) (fun h23 => ?_)
    refine q_aload_n (pc := 106) (dq D_R_readWork_0_ok 57 rfl) rfl 3 rfl ?_
    refine q_getR (pc := 107) (dq D_R_readWork_0_ok 58 rfl) fa_R_36 rfl (fun x24 => ?_)
    refine q_getR (pc := 110) (dq D_R_readWork_0_ok 59 rfl) fa_R_227 rfl (fun x25 => ?_)
    refine q_iload_n (pc := 113) (dq D_R_readWork_1_ok 0 rfl) rfl 4 rfl ?_
    refine q_iload (pc := 114) (dq D_R_readWork_1_ok 1 rfl) 0 rfl ?_
    refine r_iast (pc := 116) (dq D_R_readWork_1_ok 2 rfl) (fun h26 => ?_)
    refine q_aload_n (pc := 117) (dq D_R_readWork_1_ok 3 rfl) rfl 3 rfl ?_
    refine q_getR (pc := 118) (dq D_R_readWork_1_ok 4 rfl) fa_R_36 rfl (fun x27 => ?_)
    refine q_dup (pc := 121) (dq D_R_readWork_1_ok 5 rfl) rfl ?_
    refine r_getI (pc := 122) (dq D_R_readWork_1_ok 6 rfl) fa_R_214 rfl (fun x28 => ?_)
    refine q_ic1 (pc := 125) (dq D_R_readWork_1_ok 7 rfl) ?_
    refine q_iadd (pc := 126) (dq D_R_readWork_1_ok 8 rfl) ?_
    refine r_putI (pc := 127) (dq D_R_readWork_1_ok 9 rfl) fp_R_214 rfl rfl (fun h29 => ?_)
    exact r_retu (pc := 130) (dq D_R_readWork_1_ok 10 rfl) rfl
noncomputable def f_R_readWork (v0 : Nat) (h : Hp) : Option (Unit × Hp) := gd (hS h v0 = some (.inl 1)) (bR (hR h v0 2) fun x1 => gd (hS h x1 = some (.inl 2)) (lt (hI h x1 6) fun x2 => if x2 < 4 then (b_R_readWork_22 v0 x2 h) else (gd (hS h v0 = some (.inl 1)) (lt (hI h v0 6) fun x3 => gd (hS h v0 = some (.inl 1)) (bd (f_R_fail v0 (5 : Int32) x3 h) fun _ h4 => b_R_readWork_22 v0 x2 h4)))))
set_option maxHeartbeats 4000000 in
set_option maxRecDepth 20000 in
theorem t_R_readWork {G : GG} (v0 : Nat) (h : Hp) : Mt G M_R_readWork 3 [.ref v0] cU h (f_R_readWork v0 h) := by
  refine Mt.ofF (by decide +kernel) rfl (Rt.v rfl rfl) ?_
  show T G M_R_readWork 3 cU 0 [(0, .ref v0)] [] h _
  unfold f_R_readWork
  refine q_aload_n (pc := 0) (dq D_R_readWork_0_ok 0 rfl) rfl 0 rfl ?_
  refine q_getR (pc := 1) (dq D_R_readWork_0_ok 1 rfl) fa_R_36 rfl (fun x1 => ?_)
  refine r_getI (pc := 4) (dq D_R_readWork_0_ok 2 rfl) fa_R_214 rfl (fun x2 => ?_)
  refine q_istore_n (pc := 7) (ls' := [(1, .int x2), (0, .ref v0)]) (dq D_R_readWork_0_ok 3 rfl) rfl rfl rfl ?_
  refine q_iload_n (pc := 8) (dq D_R_readWork_0_ok 4 rfl) rfl 0 rfl ?_
  refine q_ic4 (pc := 9) (dq D_R_readWork_0_ok 5 rfl) ?_
  refine q_ic_lt (pc := 10) 22 (dq D_R_readWork_0_ok 6 rfl) rfl ?_ ?_
  · exact T.lsub [1, 0] rfl (tb_R_readWork_22 v0 x2 h)
  · refine q_aload_n (pc := 13) (dq D_R_readWork_0_ok 7 rfl) rfl 1 rfl ?_
    refine q_ic5 (pc := 14) (dq D_R_readWork_0_ok 8 rfl) ?_
    refine q_aload_n (pc := 15) (dq D_R_readWork_0_ok 9 rfl) rfl 1 rfl ?_
    refine r_getI (pc := 16) (dq D_R_readWork_0_ok 10 rfl) fa_R_70 rfl (fun x3 => ?_)
    refine r_invU (Mc := M_R_fail) (pc := 19) (ci := 1) (rest := []) 0 2 [.int 5, .int x3] (dq D_R_readWork_0_ok 11 rfl) rfl rfl lc_R_fail lv_R_fail_ ml_R_73 rfl rfl rfl rfl (t_R_fail v0 (5 : Int32) x3 h) (fun _ h4 => ?_)
    exact T.lsub [1, 0] rfl (tb_R_readWork_22 v0 x2 h4)
noncomputable def f_O_hasSky (v0 : Nat) (v1 : Int32) (h : Hp) : Option (Int32 × Hp) := gd (hS h v0 = some (.inl 2)) (bR (hR h v0 10) fun x1 => gd (ai h x1 0 v1) (lt (hI h x1 v1.toNatClampNeg) fun x2 => if x2 ≤ 0 then (gd (zb 0) (some (0, h))) else (gd (zb 1) (some (1, h)))))
set_option maxHeartbeats 4000000 in
set_option maxRecDepth 20000 in
theorem t_O_hasSky {G : GG} (v0 : Nat) (v1 : Int32) (h : Hp) : Mt G M_O_hasSky 0 [.ref v0, .int v1] cI h (f_O_hasSky v0 v1 h) := by
  refine Mt.ofF (by decide +kernel) rfl (Rt.z rfl rfl) ?_
  show T G M_O_hasSky 0 cI 0 [(0, .ref v0), (1, .int v1)] [] h _
  unfold f_O_hasSky
  refine q_aload_n (pc := 0) (dq D_O_hasSky_0_ok 0 rfl) rfl 0 rfl ?_
  refine q_getR (pc := 1) (dq D_O_hasSky_0_ok 1 rfl) fa_O_30 rfl (fun x1 => ?_)
  refine q_iload_n (pc := 4) (dq D_O_hasSky_0_ok 2 rfl) rfl 1 rfl ?_
  refine r_iald (pc := 5) (dq D_O_hasSky_0_ok 3 rfl) (fun x2 => ?_)
  refine p_if_le (pc := 6) 13 (dq D_O_hasSky_0_ok 4 rfl) rfl ?_ ?_
  · refine q_ic0 (pc := 13) (dq D_O_hasSky_0_ok 7 rfl) ?_
    exact r_retz (pc := 14) (dq D_O_hasSky_0_ok 8 rfl) rfl
  · refine q_ic1 (pc := 9) (dq D_O_hasSky_0_ok 5 rfl) ?_
    refine q_goto (pc := 10) 14 (dq D_O_hasSky_0_ok 6 rfl) rfl ?_
    exact r_retz (pc := 14) (dq D_O_hasSky_0_ok 8 rfl) rfl
noncomputable def b_R_readSky_41 (v0 : Nat) (v1 : Int32) (h : Hp) : Option (Unit × Hp) := gd (hS h v0 = some (.inl 1)) (bd (f_R_pass v0 (435778056825 : Int64) h) fun _ h1 => gd (hS h1 v0 = some (.inl 1)) (bd (f_R_readWhole v0 (1 : Int32) (400 : Int32) h1) fun r4 h3 => gd (hS h3 v0 = some (.inl 1)) (bd (f_R_pass v0 (1718775661 : Int64) h3) fun _ h5 => gd (hS h5 v0 = some (.inl 1)) (bd (f_R_readWhole v0 (0 : Int32) (400 : Int32) h5) fun r8 h7 => gd (hS h7 v0 = some (.inl 1)) (lt (hI h7 v0 4) fun x9 => if x9 = 0 then (gd (hS h7 v0 = some (.inl 1)) (bR (hR h7 v0 2) fun x10 => gd (hS h7 x10 = some (.inl 2)) (bR (hR h7 x10 10) fun x11 => gd (ai h7 x11 0 v1) (lt (uI h7 x11 v1.toNatClampNeg r4) fun h12 => gd (hS h12 v0 = some (.inl 1)) (bR (hR h12 v0 2) fun x13 => gd (hS h12 x13 = some (.inl 2)) (bR (hR h12 x13 11) fun x14 => gd (ai h12 x14 0 v1) (lt (uI h12 x14 v1.toNatClampNeg r8) fun h15 => some ((), h15)))))))) else (some ((), h7)))))))
set_option maxHeartbeats 4000000 in
set_option maxRecDepth 20000 in
theorem tb_R_readSky_41 {G : GG} (v0 : Nat) (v1 : Int32) (h : Hp) : T G M_R_readSky 3 cU 41 [(0, .ref v0), (1, .int v1)] [] h (b_R_readSky_41 v0 v1 h) := by
  unfold b_R_readSky_41
  refine q_aload_n (pc := 41) (dq D_R_readSky_0_ok 21 rfl) rfl 0 rfl ?_
  refine q_ldc2 (pc := 42) (v := 435778056825) (dq D_R_readSky_0_ok 22 rfl) lk_R_233 ?_
  refine r_invU (Mc := M_R_pass) (pc := 45) (ci := 1) (rest := []) 2 1 [.long 435778056825] (dq D_R_readSky_0_ok 23 rfl) rfl rfl lc_R_pass lv_R_pass_ ml_R_129 rfl rfl rfl rfl (t_R_pass v0 (435778056825 : Int64) h) (fun _ h1 => ?_)
  refine q_aload_n (pc := 48) (dq D_R_readSky_0_ok 24 rfl) rfl 0 rfl ?_
  refine q_ic1 (pc := 49) (dq D_R_readSky_0_ok 25 rfl) ?_
  refine q_sipush (pc := 50) (v := 400) (dq D_R_readSky_0_ok 26 rfl) (by decide) ?_
  refine r_invI (Mc := M_R_readWhole) (pc := 53) (ci := 1) (rest := []) 2 2 [.int 1, .int 400] (dq D_R_readSky_0_ok 27 rfl) rfl rfl lc_R_readWhole lv_R_readWhole_ ml_R_135 rfl rfl rfl rfl (t_R_readWhole v0 (1 : Int32) (400 : Int32) h1) (fun r4 h3 => ?_)
  refine q_istore_n (pc := 56) (ls' := [(2, .int r4), (0, .ref v0), (1, .int v1)]) (dq D_R_readSky_0_ok 28 rfl) rfl rfl rfl ?_
  refine q_aload_n (pc := 57) (dq D_R_readSky_0_ok 29 rfl) rfl 1 rfl ?_
  refine q_ldc2 (pc := 58) (v := 1718775661) (dq D_R_readSky_0_ok 30 rfl) lk_R_235 ?_
  refine r_invU (Mc := M_R_pass) (pc := 61) (ci := 1) (rest := []) 2 1 [.long 1718775661] (dq D_R_readSky_0_ok 31 rfl) rfl rfl lc_R_pass lv_R_pass_ ml_R_129 rfl rfl rfl rfl (t_R_pass v0 (1718775661 : Int64) h3) (fun _ h5 => ?_)
  refine q_aload_n (pc := 64) (dq D_R_readSky_0_ok 32 rfl) rfl 1 rfl ?_
  refine q_ic0 (pc := 65) (dq D_R_readSky_0_ok 33 rfl) ?_
  refine q_sipush (pc := 66) (v := 400) (dq D_R_readSky_0_ok 34 rfl) (by decide) ?_
  refine r_invI (Mc := M_R_readWhole) (pc := 69) (ci := 1) (rest := []) 2 2 [.int 0, .int 400] (dq D_R_readSky_0_ok 35 rfl) rfl rfl lc_R_readWhole lv_R_readWhole_ ml_R_135 rfl rfl rfl rfl (t_R_readWhole v0 (0 : Int32) (400 : Int32) h5) (fun r8 h7 => ?_)
  refine q_istore_n (pc := 72) (ls' := [(3, .int r8), (2, .int r4), (0, .ref v0), (1, .int v1)]) (dq D_R_readSky_0_ok 36 rfl) rfl rfl rfl ?_
  refine q_aload_n (pc := 73) (dq D_R_readSky_0_ok 37 rfl) rfl 2 rfl ?_
  refine r_getI (pc := 74) (dq D_R_readSky_0_ok 38 rfl) fa_R_49 rfl (fun x9 => ?_)
  refine p_if_ne (pc := 77) 100 (dq D_R_readSky_0_ok 39 rfl) rfl ?_ ?_
  · exact r_retu (pc := 100) (dq D_R_readSky_0_ok 52 rfl) rfl
  · refine q_aload_n (pc := 80) (dq D_R_readSky_0_ok 40 rfl) rfl 2 rfl ?_
    refine q_getR (pc := 81) (dq D_R_readSky_0_ok 41 rfl) fa_R_36 rfl (fun x10 => ?_)
    refine q_getR (pc := 84) (dq D_R_readSky_0_ok 42 rfl) fa_R_237 rfl (fun x11 => ?_)
    refine q_iload_n (pc := 87) (dq D_R_readSky_0_ok 43 rfl) rfl 3 rfl ?_
    refine q_iload_n (pc := 88) (dq D_R_readSky_0_ok 44 rfl) rfl 1 rfl ?_
    refine r_iast (pc := 89) (dq D_R_readSky_0_ok 45 rfl) (fun h12 => ?_)
    refine q_aload_n (pc := 90) (dq D_R_readSky_0_ok 46 rfl) rfl 2 rfl ?_
    refine q_getR (pc := 91) (dq D_R_readSky_0_ok 47 rfl) fa_R_36 rfl (fun x13 => ?_)
    refine q_getR (pc := 94) (dq D_R_readSky_0_ok 48 rfl) fa_R_240 rfl (fun x14 => ?_)
    refine q_iload_n (pc := 97) (dq D_R_readSky_0_ok 49 rfl) rfl 3 rfl ?_
    refine q_iload_n (pc := 98) (dq D_R_readSky_0_ok 50 rfl) rfl 0 rfl ?_
    refine r_iast (pc := 99) (dq D_R_readSky_0_ok 51 rfl) (fun h15 => ?_)
    exact r_retu (pc := 100) (dq D_R_readSky_0_ok 52 rfl) rfl
noncomputable def f_R_readSky (v0 : Nat) (h : Hp) : Option (Unit × Hp) := gd (hS h v0 = some (.inl 1)) (bd (f_R_pass v0 (7564153 : Int64) h) fun _ h1 => gd (hS h1 v0 = some (.inl 1)) (bd (f_R_readName v0 (1 : Int32) h1) fun r4 h3 => gd (hS h3 v0 = some (.inl 1)) (lt (hI h3 v0 4) fun x5 => if x5 = 0 then (gd (hS h3 v0 = some (.inl 1)) (bR (hR h3 v0 2) fun x6 => gd (hS h3 x6 = some (.inl 2)) (bd (f_O_hasSky x6 r4 h3) fun r8 h7 => if r8 = 0 then (b_R_readSky_41 v0 r4 h7) else (gd (hS h7 v0 = some (.inl 1)) (lt (hI h7 v0 11) fun x9 => gd (hS h7 v0 = some (.inl 1)) (bd (f_R_fail v0 (3 : Int32) x9 h7) fun _ h10 => b_R_readSky_41 v0 r4 h10)))))) else (some ((), h3)))))
set_option maxHeartbeats 4000000 in
set_option maxRecDepth 20000 in
theorem t_R_readSky {G : GG} (v0 : Nat) (h : Hp) : Mt G M_R_readSky 3 [.ref v0] cU h (f_R_readSky v0 h) := by
  refine Mt.ofF (by decide +kernel) rfl (Rt.v rfl rfl) ?_
  show T G M_R_readSky 3 cU 0 [(0, .ref v0)] [] h _
  unfold f_R_readSky
  refine q_aload_n (pc := 0) (dq D_R_readSky_0_ok 0 rfl) rfl 0 rfl ?_
  refine q_ldc2 (pc := 1) (v := 7564153) (dq D_R_readSky_0_ok 1 rfl) lk_R_113 ?_
  refine r_invU (Mc := M_R_pass) (pc := 4) (ci := 1) (rest := []) 2 1 [.long 7564153] (dq D_R_readSky_0_ok 2 rfl) rfl rfl lc_R_pass lv_R_pass_ ml_R_129 rfl rfl rfl rfl (t_R_pass v0 (7564153 : Int64) h) (fun _ h1 => ?_)
  refine q_aload_n (pc := 7) (dq D_R_readSky_0_ok 3 rfl) rfl 0 rfl ?_
  refine q_ic1 (pc := 8) (dq D_R_readSky_0_ok 4 rfl) ?_
  refine r_invI (Mc := M_R_readName) (pc := 9) (ci := 1) (rest := []) 2 1 [.int 1] (dq D_R_readSky_0_ok 5 rfl) rfl rfl lc_R_readName lv_R_readName_ ml_R_177 rfl rfl rfl rfl (t_R_readName v0 (1 : Int32) h1) (fun r4 h3 => ?_)
  refine q_istore_n (pc := 12) (ls' := [(1, .int r4), (0, .ref v0)]) (dq D_R_readSky_0_ok 6 rfl) rfl rfl rfl ?_
  refine q_aload_n (pc := 13) (dq D_R_readSky_0_ok 7 rfl) rfl 1 rfl ?_
  refine r_getI (pc := 14) (dq D_R_readSky_0_ok 8 rfl) fa_R_49 rfl (fun x5 => ?_)
  refine p_if_eq (pc := 17) 21 (dq D_R_readSky_0_ok 9 rfl) rfl ?_ ?_
  · refine q_aload_n (pc := 21) (dq D_R_readSky_0_ok 11 rfl) rfl 1 rfl ?_
    refine q_getR (pc := 22) (dq D_R_readSky_0_ok 12 rfl) fa_R_36 rfl (fun x6 => ?_)
    refine q_iload_n (pc := 25) (dq D_R_readSky_0_ok 13 rfl) rfl 0 rfl ?_
    refine r_invI (Mc := M_O_hasSky) (pc := 26) (ci := 2) (rest := []) 0 1 [.int r4] (dq D_R_readSky_0_ok 14 rfl) rfl rfl lc_O_hasSky lv_O_hasSky_ ml_R_230 rfl rfl rfl rfl (t_O_hasSky x6 r4 h3) (fun r8 h7 => ?_)
    refine p_if_eq (pc := 29) 41 (dq D_R_readSky_0_ok 15 rfl) rfl ?_ ?_
    · exact T.lsub [1, 0] rfl (tb_R_readSky_41 v0 r4 h7)
    · refine q_aload_n (pc := 32) (dq D_R_readSky_0_ok 16 rfl) rfl 1 rfl ?_
      refine q_ic3 (pc := 33) (dq D_R_readSky_0_ok 17 rfl) ?_
      refine q_aload_n (pc := 34) (dq D_R_readSky_0_ok 18 rfl) rfl 1 rfl ?_
      refine r_getI (pc := 35) (dq D_R_readSky_0_ok 19 rfl) fa_R_184 rfl (fun x9 => ?_)
      refine r_invU (Mc := M_R_fail) (pc := 38) (ci := 1) (rest := []) 0 2 [.int 3, .int x9] (dq D_R_readSky_0_ok 20 rfl) rfl rfl lc_R_fail lv_R_fail_ ml_R_73 rfl rfl rfl rfl (t_R_fail v0 (3 : Int32) x9 h7) (fun _ h10 => ?_)
      exact T.lsub [1, 0] rfl (tb_R_readSky_41 v0 r4 h10)
  · exact r_retu (pc := 20) (dq D_R_readSky_0_ok 10 rfl) rfl
noncomputable def b_R_readSuspect_66 (v0 : Nat) (v1 : Int32) (h : Hp) : Option (Unit × Hp) := gd (hS h v0 = some (.inl 1)) (bR (hR h v0 2) fun x1 => gd (hS h x1 = some (.inl 2)) (lt (uI h x1 12 v1) fun h2 => some ((), h2)))
set_option maxHeartbeats 4000000 in
set_option maxRecDepth 20000 in
theorem tb_R_readSuspect_66 {G : GG} (v0 : Nat) (v1 : Int32) (h : Hp) : T G M_R_readSuspect 3 cU 66 [(0, .ref v0), (1, .int v1)] [] h (b_R_readSuspect_66 v0 v1 h) := by
  unfold b_R_readSuspect_66
  refine q_aload_n (pc := 66) (dq D_R_readSuspect_0_ok 33 rfl) rfl 0 rfl ?_
  refine q_getR (pc := 67) (dq D_R_readSuspect_0_ok 34 rfl) fa_R_36 rfl (fun x1 => ?_)
  refine q_iload_n (pc := 70) (dq D_R_readSuspect_0_ok 35 rfl) rfl 1 rfl ?_
  refine r_putI (pc := 71) (dq D_R_readSuspect_0_ok 36 rfl) fp_R_187 rfl rfl (fun h2 => ?_)
  exact r_retu (pc := 74) (dq D_R_readSuspect_0_ok 37 rfl) rfl
noncomputable def b_R_readSuspect_20 (v0 : Nat) (h : Hp) : Option (Unit × Hp) := gd (hS h v0 = some (.inl 1)) (bd (f_R_pass v0 (32498760989107060 : Int64) h) fun _ h1 => gd (hS h1 v0 = some (.inl 1)) (bd (f_R_readName v0 (0 : Int32) h1) fun r4 h3 => gd (hS h3 v0 = some (.inl 1)) (lt (hI h3 v0 4) fun x5 => if x5 = 0 then (gd (hS h3 v0 = some (.inl 1)) (bR (hR h3 v0 2) fun x6 => gd (hS h3 x6 = some (.inl 2)) (bR (hR h3 x6 3) fun x7 => gd (ai h3 x7 4 r4) (bR (hR h3 x7 r4.toNatClampNeg) fun x8 => gd (hS h3 x8 = some (.inl 3)) (lt (hI h3 x8 4) fun x9 => if x9 ≤ 0 then (b_R_readSuspect_66 v0 r4 h3) else (gd (hS h3 v0 = some (.inl 1)) (lt (hI h3 v0 11) fun x10 => gd (hS h3 v0 = some (.inl 1)) (bd (f_R_fail v0 (7 : Int32) x10 h3) fun _ h11 => b_R_readSuspect_66 v0 r4 h11)))))))) else (some ((), h3)))))
set_option maxHeartbeats 4000000 in
set_option maxRecDepth 20000 in
theorem tb_R_readSuspect_20 {G : GG} (v0 : Nat) (h : Hp) : T G M_R_readSuspect 3 cU 20 [(0, .ref v0)] [] h (b_R_readSuspect_20 v0 h) := by
  unfold b_R_readSuspect_20
  refine q_aload_n (pc := 20) (dq D_R_readSuspect_0_ok 10 rfl) rfl 0 rfl ?_
  refine q_ldc2 (pc := 21) (v := 32498760989107060) (dq D_R_readSuspect_0_ok 11 rfl) lk_R_118 ?_
  refine r_invU (Mc := M_R_pass) (pc := 24) (ci := 1) (rest := []) 2 1 [.long 32498760989107060] (dq D_R_readSuspect_0_ok 12 rfl) rfl rfl lc_R_pass lv_R_pass_ ml_R_129 rfl rfl rfl rfl (t_R_pass v0 (32498760989107060 : Int64) h) (fun _ h1 => ?_)
  refine q_aload_n (pc := 27) (dq D_R_readSuspect_0_ok 13 rfl) rfl 0 rfl ?_
  refine q_ic0 (pc := 28) (dq D_R_readSuspect_0_ok 14 rfl) ?_
  refine r_invI (Mc := M_R_readName) (pc := 29) (ci := 1) (rest := []) 2 1 [.int 0] (dq D_R_readSuspect_0_ok 15 rfl) rfl rfl lc_R_readName lv_R_readName_ ml_R_177 rfl rfl rfl rfl (t_R_readName v0 (0 : Int32) h1) (fun r4 h3 => ?_)
  refine q_istore_n (pc := 32) (ls' := [(1, .int r4), (0, .ref v0)]) (dq D_R_readSuspect_0_ok 16 rfl) rfl rfl rfl ?_
  refine q_aload_n (pc := 33) (dq D_R_readSuspect_0_ok 17 rfl) rfl 1 rfl ?_
  refine r_getI (pc := 34) (dq D_R_readSuspect_0_ok 18 rfl) fa_R_49 rfl (fun x5 => ?_)
  refine p_if_eq (pc := 37) 41 (dq D_R_readSuspect_0_ok 19 rfl) rfl ?_ ?_
  · refine q_aload_n (pc := 41) (dq D_R_readSuspect_0_ok 21 rfl) rfl 1 rfl ?_
    refine q_getR (pc := 42) (dq D_R_readSuspect_0_ok 22 rfl) fa_R_36 rfl (fun x6 => ?_)
    refine q_getR (pc := 45) (dq D_R_readSuspect_0_ok 23 rfl) fa_R_159 rfl (fun x7 => ?_)
    refine q_iload_n (pc := 48) (dq D_R_readSuspect_0_ok 24 rfl) rfl 0 rfl ?_
    refine r_aald (pc := 49) 4 (dq D_R_readSuspect_0_ok 25 rfl) rfl rfl (fun _ => rfl) (fun x8 => ?_)
    refine r_getI (pc := 50) (dq D_R_readSuspect_0_ok 26 rfl) fa_R_181 rfl (fun x9 => ?_)
    refine p_if_le (pc := 53) 66 (dq D_R_readSuspect_0_ok 27 rfl) rfl ?_ ?_
    · exact T.lsub [1, 0] rfl (tb_R_readSuspect_66 v0 r4 h3)
    · refine q_aload_n (pc := 56) (dq D_R_readSuspect_0_ok 28 rfl) rfl 1 rfl ?_
      refine q_bipush (pc := 57) (v := 7) (dq D_R_readSuspect_0_ok 29 rfl) (by decide) ?_
      refine q_aload_n (pc := 59) (dq D_R_readSuspect_0_ok 30 rfl) rfl 1 rfl ?_
      refine r_getI (pc := 60) (dq D_R_readSuspect_0_ok 31 rfl) fa_R_184 rfl (fun x10 => ?_)
      refine r_invU (Mc := M_R_fail) (pc := 63) (ci := 1) (rest := []) 0 2 [.int 7, .int x10] (dq D_R_readSuspect_0_ok 32 rfl) rfl rfl lc_R_fail lv_R_fail_ ml_R_73 rfl rfl rfl rfl (t_R_fail v0 (7 : Int32) x10 h3) (fun _ h11 => ?_)
      exact T.lsub [1, 0] rfl (tb_R_readSuspect_66 v0 r4 h11)
  · exact r_retu (pc := 40) (dq D_R_readSuspect_0_ok 20 rfl) rfl
noncomputable def f_R_readSuspect (v0 : Nat) (h : Hp) : Option (Unit × Hp) := gd (hS h v0 = some (.inl 1)) (bR (hR h v0 2) fun x1 => gd (hS h x1 = some (.inl 2)) (lt (hI h x1 12) fun x2 => if x2 = ((-1)) then (b_R_readSuspect_20 v0 h) else (gd (hS h v0 = some (.inl 1)) (lt (hI h v0 6) fun x3 => gd (hS h v0 = some (.inl 1)) (bd (f_R_fail v0 (3 : Int32) x3 h) fun _ h4 => b_R_readSuspect_20 v0 h4)))))
set_option maxHeartbeats 4000000 in
set_option maxRecDepth 20000 in
theorem t_R_readSuspect {G : GG} (v0 : Nat) (h : Hp) : Mt G M_R_readSuspect 3 [.ref v0] cU h (f_R_readSuspect v0 h) := by
  refine Mt.ofF (by decide +kernel) rfl (Rt.v rfl rfl) ?_
  show T G M_R_readSuspect 3 cU 0 [(0, .ref v0)] [] h _
  unfold f_R_readSuspect
  refine q_aload_n (pc := 0) (dq D_R_readSuspect_0_ok 0 rfl) rfl 0 rfl ?_
  refine q_getR (pc := 1) (dq D_R_readSuspect_0_ok 1 rfl) fa_R_36 rfl (fun x1 => ?_)
  refine r_getI (pc := 4) (dq D_R_readSuspect_0_ok 2 rfl) fa_R_187 rfl (fun x2 => ?_)
  refine q_icm1 (pc := 7) (dq D_R_readSuspect_0_ok 3 rfl) ?_
  refine q_ic_eq (pc := 8) 20 (dq D_R_readSuspect_0_ok 4 rfl) rfl ?_ ?_
  · exact T.lsub [0] rfl (tb_R_readSuspect_20 v0 h)
  · refine q_aload_n (pc := 11) (dq D_R_readSuspect_0_ok 5 rfl) rfl 0 rfl ?_
    refine q_ic3 (pc := 12) (dq D_R_readSuspect_0_ok 6 rfl) ?_
    refine q_aload_n (pc := 13) (dq D_R_readSuspect_0_ok 7 rfl) rfl 0 rfl ?_
    refine r_getI (pc := 14) (dq D_R_readSuspect_0_ok 8 rfl) fa_R_70 rfl (fun x3 => ?_)
    refine r_invU (Mc := M_R_fail) (pc := 17) (ci := 1) (rest := []) 0 2 [.int 3, .int x3] (dq D_R_readSuspect_0_ok 9 rfl) rfl rfl lc_R_fail lv_R_fail_ ml_R_73 rfl rfl rfl rfl (t_R_fail v0 (3 : Int32) x3 h) (fun _ h4 => ?_)
    exact T.lsub [0] rfl (tb_R_readSuspect_20 v0 h4)
