noncomputable def b_m_slips_18 (v0 : Nat) (v1 : Int32) (v2 : Int32) (s0 : Int32) (s1 : Nat) (h : Hp) : Option (Int32 × Hp) := gd (hS h s1 = some (.inl 11)) (bd (f_m_refusesSeed s1 s0 v1 v2 h) fun r2 h1 => if r2 ≤ 0 then (gd (hS h1 v0 = some (.inl 11)) (bd (f_m_yearsAll v0 v1 v2 ((-1)) h1) fun r4 h3 => gd (hS h3 v0 = some (.inl 11)) (lt (hI h3 v0 35) fun x5 => gd (hS h3 v0 = some (.inl 11)) (bd (f_m_good v0 x5 h3) fun r7 h6 => some (r7, h6))))) else (gd (hS h1 v0 = some (.inl 11)) (bd (f_m_refused v0 r2 h1) fun r9 h8 => some (r9, h8))))
set_option maxHeartbeats 4000000 in
set_option maxRecDepth 20000 in
theorem tb_m_slips_18 {G : GG} (v0 : Nat) (v1 : Int32) (v2 : Int32) (s0 : Int32) (s1 : Nat) (h : Hp) : T G M_m_slips 4 cI 18 [(0, .ref v0), (1, .int v1), (2, .int v2)] [.int s0, .ref s1] h (b_m_slips_18 v0 v1 v2 s0 s1 h) := by
  unfold b_m_slips_18
  refine q_iload_n (pc := 18) (dq D_m_slips_0_ok 10 rfl) rfl 1 rfl ?_
  refine q_iload_n (pc := 19) (dq D_m_slips_0_ok 11 rfl) rfl 2 rfl ?_
  refine r_invI (Mc := M_m_refusesSeed) (pc := 20) (ci := 11) (rest := []) 1 3 [.int s0, .int v1, .int v2] (dq D_m_slips_0_ok 12 rfl) rfl rfl lc_m_refusesSeed lv_m_refusesSeed_ ml_m_513 rfl rfl rfl rfl (t_m_refusesSeed s1 s0 v1 v2 h) (fun r2 h1 => ?_)
  refine q_istore_n (pc := 23) (ls' := [(3, .int r2), (0, .ref v0), (1, .int v1), (2, .int v2)]) (dq D_m_slips_0_ok 13 rfl) rfl rfl rfl ?_
  refine q_iload_n (pc := 24) (dq D_m_slips_0_ok 14 rfl) rfl 0 rfl ?_
  refine p_if_le (pc := 25) 34 (dq D_m_slips_0_ok 15 rfl) rfl ?_ ?_
  · refine q_aload_n (pc := 34) (dq D_m_slips_0_ok 20 rfl) rfl 1 rfl ?_
    refine q_iload_n (pc := 35) (dq D_m_slips_0_ok 21 rfl) rfl 2 rfl ?_
    refine q_iload_n (pc := 36) (dq D_m_slips_0_ok 22 rfl) rfl 3 rfl ?_
    refine q_icm1 (pc := 37) (dq D_m_slips_0_ok 23 rfl) ?_
    refine r_invI (Mc := M_m_yearsAll) (pc := 38) (ci := 11) (rest := []) 3 3 [.int v1, .int v2, .int ((-1))] (dq D_m_slips_0_ok 24 rfl) rfl rfl lc_m_yearsAll lv_m_yearsAll_ ml_m_517 rfl rfl rfl rfl (t_m_yearsAll v0 v1 v2 ((-1)) h1) (fun r4 h3 => ?_)
    refine q_pop (pc := 41) (dq D_m_slips_0_ok 25 rfl) rfl ?_
    refine q_aload_n (pc := 42) (dq D_m_slips_0_ok 26 rfl) rfl 1 rfl ?_
    refine q_aload_n (pc := 43) (dq D_m_slips_0_ok 27 rfl) rfl 1 rfl ?_
    refine r_getI (pc := 44) (dq D_m_slips_0_ok 28 rfl) fa_m_503 rfl (fun x5 => ?_)
    refine r_invI (Mc := M_m_good) (pc := 47) (ci := 11) (rest := []) 0 1 [.int x5] (dq D_m_slips_0_ok 29 rfl) rfl rfl lc_m_good lv_m_good_ ml_m_64 rfl rfl rfl rfl (t_m_good v0 x5 h3) (fun r7 h6 => ?_)
    exact r_reti (pc := 50) (dq D_m_slips_0_ok 30 rfl) rfl
  · refine q_aload_n (pc := 28) (dq D_m_slips_0_ok 16 rfl) rfl 1 rfl ?_
    refine q_iload_n (pc := 29) (dq D_m_slips_0_ok 17 rfl) rfl 0 rfl ?_
    refine r_invI (Mc := M_m_refused) (pc := 30) (ci := 11) (rest := []) 0 1 [.int r2] (dq D_m_slips_0_ok 18 rfl) rfl rfl lc_m_refused lv_m_refused_ ml_m_60 rfl rfl rfl rfl (t_m_refused v0 r2 h1) (fun r9 h8 => ?_)
    exact r_reti (pc := 33) (dq D_m_slips_0_ok 19 rfl) rfl
noncomputable def f_m_slips (v0 : Nat) (v1 : Int32) (v2 : Int32) (h : Hp) : Option (Int32 × Hp) := gd (hS h v0 = some (.inl 11)) (lt (uI h v0 0 0) fun h1 => gd (hS h1 v0 = some (.inl 11)) (if hR h1 v0 3 = none then (b_m_slips_18 v0 v1 v2 0 v0 h1) else (b_m_slips_18 v0 v1 v2 1 v0 h1)))
set_option maxHeartbeats 4000000 in
set_option maxRecDepth 20000 in
theorem t_m_slips {G : GG} (v0 : Nat) (v1 : Int32) (v2 : Int32) (h : Hp) : Mt G M_m_slips 4 [.ref v0, .int v1, .int v2] cI h (f_m_slips v0 v1 v2 h) := by
  refine Mt.ofF (by decide +kernel) rfl (Rt.i rfl rfl) ?_
  show T G M_m_slips 4 cI 0 [(0, .ref v0), (1, .int v1), (2, .int v2)] [] h _
  unfold f_m_slips
  refine q_aload_n (pc := 0) (dq D_m_slips_0_ok 0 rfl) rfl 0 rfl ?_
  refine q_ic0 (pc := 1) (dq D_m_slips_0_ok 1 rfl) ?_
  refine r_putI (pc := 2) (dq D_m_slips_0_ok 2 rfl) fp_m_54 rfl rfl (fun h1 => ?_)
  refine q_aload_n (pc := 5) (dq D_m_slips_0_ok 3 rfl) rfl 0 rfl ?_
  refine q_aload_n (pc := 6) (dq D_m_slips_0_ok 4 rfl) rfl 0 rfl ?_
  refine q_getnu (pc := 7) 17 (dq D_m_slips_0_ok 5 rfl) (dq D_m_slips_0_ok 6 rfl) rfl fa_m_348 rfl ?_ ?_
  · refine q_ic0 (pc := 17) (dq D_m_slips_0_ok 9 rfl) ?_
    exact T.lsub [0, 1, 2] rfl (tb_m_slips_18 v0 v1 v2 0 v0 h1)
  · refine q_ic1 (pc := 13) (dq D_m_slips_0_ok 7 rfl) ?_
    refine q_goto (pc := 14) 18 (dq D_m_slips_0_ok 8 rfl) rfl ?_
    exact T.lsub [0, 1, 2] rfl (tb_m_slips_18 v0 v1 v2 1 v0 h1)
noncomputable def b_m_remembers_50 (k50 : (Nat × Int32) → Hp → Option (Unit × Hp)) (v0 : Nat) (v1 : Int32) (h : Hp) : Option (Unit × Hp) := if 8 ≤ v1 then (gd (hS h v0 = some (.inl 11)) (lt (hI h v0 19) fun x1 => gd (hS h v0 = some (.inl 11)) (lt (uI h v0 19 (x1 + 1)) fun h2 => some ((), h2)))) else (gd (hS h v0 = some (.inl 11)) (bR (hR h v0 17) fun x3 => gd (hS h v0 = some (.inl 11)) (lt (hI h v0 19) fun x4 => gd (hS h v0 = some (.inl 11)) (bR (hR h v0 15) fun x5 => gd (ai h x5 0 v1) (lt (hI h x5 v1.toNatClampNeg) fun x6 => gd (ai h x3 0 ((8 * x4) + v1)) (lt (uI h x3 ((8 * x4) + v1).toNatClampNeg x6) fun h7 => k50 (v0, v1 + 1) h7))))))
set_option maxHeartbeats 4000000 in
set_option maxRecDepth 20000 in
theorem tb_m_remembers_50 {G : GG} {k50 : (Nat × Int32) → Hp → Option (Unit × Hp)} (hk50 : ∀ s h, T G M_m_remembers 0 cU 50 [(0, .ref s.1), (1, .int s.2)] [] h (k50 s h)) (v0 : Nat) (v1 : Int32) (h : Hp) : T G M_m_remembers 0 cU 50 [(0, .ref v0), (1, .int v1)] [] h (b_m_remembers_50 k50 v0 v1 h) := by
  unfold b_m_remembers_50
  refine q_iload_n (pc := 50) (dq D_m_remembers_0_ok 29 rfl) rfl 1 rfl ?_
  refine q_bipush (pc := 51) (v := 8) (dq D_m_remembers_0_ok 30 rfl) (by decide) ?_
  refine q_ic_ge (pc := 53) 82 (dq D_m_remembers_0_ok 31 rfl) rfl ?_ ?_
  · refine q_aload_n (pc := 82) (dq D_m_remembers_0_ok 47 rfl) rfl 0 rfl ?_
    refine q_dup (pc := 83) (dq D_m_remembers_0_ok 48 rfl) rfl ?_
    refine r_getI (pc := 84) (dq D_m_remembers_0_ok 49 rfl) fa_m_351 rfl (fun x1 => ?_)
    refine q_ic1 (pc := 87) (dq D_m_remembers_0_ok 50 rfl) ?_
    refine q_iadd (pc := 88) (dq D_m_remembers_0_ok 51 rfl) ?_
    refine r_putI (pc := 89) (dq D_m_remembers_0_ok 52 rfl) fp_m_351 rfl rfl (fun h2 => ?_)
    exact r_retu (pc := 92) (dq D_m_remembers_0_ok 53 rfl) rfl
  · refine q_aload_n (pc := 56) (dq D_m_remembers_0_ok 32 rfl) rfl 0 rfl ?_
    refine q_getR (pc := 57) (dq D_m_remembers_0_ok 33 rfl) fa_m_24 rfl (fun x3 => ?_)
    refine q_bipush (pc := 60) (v := 8) (dq D_m_remembers_0_ok 34 rfl) (by decide) ?_
    refine q_aload_n (pc := 62) (dq D_m_remembers_0_ok 35 rfl) rfl 0 rfl ?_
    refine r_getI (pc := 63) (dq D_m_remembers_0_ok 36 rfl) fa_m_351 rfl (fun x4 => ?_)
    refine q_imul (pc := 66) (dq D_m_remembers_0_ok 37 rfl) ?_
    refine q_iload_n (pc := 67) (dq D_m_remembers_0_ok 38 rfl) rfl 1 rfl ?_
    refine q_iadd (pc := 68) (dq D_m_remembers_0_ok 39 rfl) ?_
    refine q_aload_n (pc := 69) (dq D_m_remembers_0_ok 40 rfl) rfl 0 rfl ?_
    refine q_getR (pc := 70) (dq D_m_remembers_0_ok 41 rfl) fa_m_17 rfl (fun x5 => ?_)
    refine q_iload_n (pc := 73) (dq D_m_remembers_0_ok 42 rfl) rfl 1 rfl ?_
    refine r_iald (pc := 74) (dq D_m_remembers_0_ok 43 rfl) (fun x6 => ?_)
    refine r_iast (pc := 75) (dq D_m_remembers_0_ok 44 rfl) (fun h7 => ?_)
    refine q_iinc (pc := 76) (v := (1)) (ls' := [(1, .int (v1 + 1)), (0, .ref v0)]) (dq D_m_remembers_0_ok 45 rfl) 1 rfl (by decide) rfl rfl ?_
    refine q_goto (pc := 79) 50 (dq D_m_remembers_0_ok 46 rfl) rfl ?_
    exact T.lsub [1, 0] rfl (hk50 (v0, v1 + 1) h7)
noncomputable def l_m_remembers_50 : Nat → (Nat × Int32) → Hp → Option (Unit × Hp) := lp (fun k50 s h => b_m_remembers_50 k50 s.1 s.2 h)
set_option maxHeartbeats 4000000 in
set_option maxRecDepth 20000 in
theorem tl_m_remembers_50 {G : GG} (n : Nat) (s : Nat × Int32) (h : Hp) : T G M_m_remembers 0 cU 50 [(0, .ref s.1), (1, .int s.2)] [] h (l_m_remembers_50 n s h) :=
  T.loop (lsOf := fun s => [(0, .ref s.1), (1, .int s.2)]) (fun k50 hk50 s h => tb_m_remembers_50 hk50 s.1 s.2 h) n s h
noncomputable def b_m_remembers_48 (v0 : Nat) (h : Hp) : Option (Unit × Hp) := lt (0 : Int32) fun y1 => l_m_remembers_50 FU (v0, y1) h
set_option maxHeartbeats 4000000 in
set_option maxRecDepth 20000 in
theorem tb_m_remembers_48 {G : GG} (v0 : Nat) (h : Hp) : T G M_m_remembers 0 cU 48 [(0, .ref v0)] [] h (b_m_remembers_48 v0 h) := by
  unfold b_m_remembers_48
  refine q_ic0 (pc := 48) (dq D_m_remembers_0_ok 27 rfl) ?_
  refine r_nmI (fun y1 => ?_)
  refine q_istore_n (pc := 49) (ls' := [(1, .int y1), (0, .ref v0)]) (dq D_m_remembers_0_ok 28 rfl) rfl rfl rfl ?_
  exact T.lsub [1, 0] rfl (tl_m_remembers_50 FU (v0, y1) h)
noncomputable def b_m_remembers_11 (k11 : (Nat × Int32) → Hp → Option (Unit × Hp)) (v0 : Nat) (v1 : Int32) (h : Hp) : Option (Unit × Hp) := if 120 ≤ v1 then (gd (hS h v0 = some (.inl 11)) (lt (hI h v0 19) fun x1 => gd (hS h v0 = some (.inl 11)) (lt (uI h v0 19 (x1 - 1)) fun h2 => b_m_remembers_48 v0 h2))) else (gd (hS h v0 = some (.inl 11)) (bR (hR h v0 17) fun x3 => gd (hS h v0 = some (.inl 11)) (bR (hR h v0 17) fun x4 => gd (ai h x4 0 (v1 + 8)) (lt (hI h x4 (v1 + 8).toNatClampNeg) fun x5 => gd (ai h x3 0 v1) (lt (uI h x3 v1.toNatClampNeg x5) fun h6 => k11 (v0, v1 + 1) h6)))))
set_option maxHeartbeats 4000000 in
set_option maxRecDepth 20000 in
theorem tb_m_remembers_11 {G : GG} {k11 : (Nat × Int32) → Hp → Option (Unit × Hp)} (hk11 : ∀ s h, T G M_m_remembers 0 cU 11 [(0, .ref s.1), (1, .int s.2)] [] h (k11 s h)) (v0 : Nat) (v1 : Int32) (h : Hp) : T G M_m_remembers 0 cU 11 [(0, .ref v0), (1, .int v1)] [] h (b_m_remembers_11 k11 v0 v1 h) := by
  unfold b_m_remembers_11
  refine q_iload_n (pc := 11) (dq D_m_remembers_0_ok 6 rfl) rfl 1 rfl ?_
  refine q_bipush (pc := 12) (v := 120) (dq D_m_remembers_0_ok 7 rfl) (by decide) ?_
  refine q_ic_ge (pc := 14) 38 (dq D_m_remembers_0_ok 8 rfl) rfl ?_ ?_
  · refine q_aload_n (pc := 38) (dq D_m_remembers_0_ok 21 rfl) rfl 0 rfl ?_
    refine q_dup (pc := 39) (dq D_m_remembers_0_ok 22 rfl) rfl ?_
    refine r_getI (pc := 40) (dq D_m_remembers_0_ok 23 rfl) fa_m_351 rfl (fun x1 => ?_)
    refine q_ic1 (pc := 43) (dq D_m_remembers_0_ok 24 rfl) ?_
    refine q_isub (pc := 44) (dq D_m_remembers_0_ok 25 rfl) ?_
    refine r_putI (pc := 45) (dq D_m_remembers_0_ok 26 rfl) fp_m_351 rfl rfl (fun h2 => ?_)
    exact T.lsub [0] rfl (tb_m_remembers_48 v0 h2)
  · refine q_aload_n (pc := 17) (dq D_m_remembers_0_ok 9 rfl) rfl 0 rfl ?_
    refine q_getR (pc := 18) (dq D_m_remembers_0_ok 10 rfl) fa_m_24 rfl (fun x3 => ?_)
    refine q_iload_n (pc := 21) (dq D_m_remembers_0_ok 11 rfl) rfl 1 rfl ?_
    refine q_aload_n (pc := 22) (dq D_m_remembers_0_ok 12 rfl) rfl 0 rfl ?_
    refine q_getR (pc := 23) (dq D_m_remembers_0_ok 13 rfl) fa_m_24 rfl (fun x4 => ?_)
    refine q_iload_n (pc := 26) (dq D_m_remembers_0_ok 14 rfl) rfl 1 rfl ?_
    refine q_bipush (pc := 27) (v := 8) (dq D_m_remembers_0_ok 15 rfl) (by decide) ?_
    refine q_iadd (pc := 29) (dq D_m_remembers_0_ok 16 rfl) ?_
    refine r_iald (pc := 30) (dq D_m_remembers_0_ok 17 rfl) (fun x5 => ?_)
    refine r_iast (pc := 31) (dq D_m_remembers_0_ok 18 rfl) (fun h6 => ?_)
    refine q_iinc (pc := 32) (v := (1)) (ls' := [(1, .int (v1 + 1)), (0, .ref v0)]) (dq D_m_remembers_0_ok 19 rfl) 1 rfl (by decide) rfl rfl ?_
    refine q_goto (pc := 35) 11 (dq D_m_remembers_0_ok 20 rfl) rfl ?_
    exact T.lsub [1, 0] rfl (hk11 (v0, v1 + 1) h6)
noncomputable def l_m_remembers_11 : Nat → (Nat × Int32) → Hp → Option (Unit × Hp) := lp (fun k11 s h => b_m_remembers_11 k11 s.1 s.2 h)
set_option maxHeartbeats 4000000 in
set_option maxRecDepth 20000 in
theorem tl_m_remembers_11 {G : GG} (n : Nat) (s : Nat × Int32) (h : Hp) : T G M_m_remembers 0 cU 11 [(0, .ref s.1), (1, .int s.2)] [] h (l_m_remembers_11 n s h) :=
  T.loop (lsOf := fun s => [(0, .ref s.1), (1, .int s.2)]) (fun k11 hk11 s h => tb_m_remembers_11 hk11 s.1 s.2 h) n s h
noncomputable def f_m_remembers (v0 : Nat) (h : Hp) : Option (Unit × Hp) := gd (hS h v0 = some (.inl 11)) (lt (hI h v0 19) fun x1 => if x1 = 16 then (lt (0 : Int32) fun y2 => l_m_remembers_11 FU (v0, y2) h) else (b_m_remembers_48 v0 h))
set_option maxHeartbeats 4000000 in
set_option maxRecDepth 20000 in
theorem t_m_remembers {G : GG} (v0 : Nat) (h : Hp) : Mt G M_m_remembers 0 [.ref v0] cU h (f_m_remembers v0 h) := by
  refine Mt.ofF (by decide +kernel) rfl (Rt.v rfl rfl) ?_
  show T G M_m_remembers 0 cU 0 [(0, .ref v0)] [] h _
  unfold f_m_remembers
  refine q_aload_n (pc := 0) (dq D_m_remembers_0_ok 0 rfl) rfl 0 rfl ?_
  refine r_getI (pc := 1) (dq D_m_remembers_0_ok 1 rfl) fa_m_351 rfl (fun x1 => ?_)
  refine q_bipush (pc := 4) (v := 16) (dq D_m_remembers_0_ok 2 rfl) (by decide) ?_
  refine q_ic_ne (pc := 6) 48 (dq D_m_remembers_0_ok 3 rfl) rfl ?_ ?_
  · exact T.lsub [0] rfl (tb_m_remembers_48 v0 h)
  · refine q_ic0 (pc := 9) (dq D_m_remembers_0_ok 4 rfl) ?_
    refine r_nmI (fun y2 => ?_)
    refine q_istore_n (pc := 10) (ls' := [(1, .int y2), (0, .ref v0)]) (dq D_m_remembers_0_ok 5 rfl) rfl rfl rfl ?_
    exact T.lsub [1, 0] rfl (tl_m_remembers_11 FU (v0, y2) h)
noncomputable def b_m_becomes_2 (k2 : (Nat × Int32 × Int32) → Hp → Option (Int32 × Hp)) (v0 : Nat) (v1 : Int32) (v2 : Int32) (h : Hp) : Option (Int32 × Hp) := if 8 ≤ v2 then (gd (hS h v0 = some (.inl 11)) (bR (hR h v0 15) fun x1 => gd (ai h x1 0 7) (lt (hI h x1 (7 : Int32).toNatClampNeg) fun x2 => gd (ai h x1 0 7) (lt (uI h x1 (7 : Int32).toNatClampNeg (x2 + v1)) fun h3 => gd (hS h3 v0 = some (.inl 11)) (bd (f_m_good v0 v1 h3) fun r5 h4 => some (r5, h4)))))) else (gd (hS h v0 = some (.inl 11)) (bR (hR h v0 15) fun x6 => gd (hS h v0 = some (.inl 11)) (bR (hR h v0 16) fun x7 => gd (ai h x7 0 v2) (lt (hI h x7 v2.toNatClampNeg) fun x8 => gd (ai h x6 0 v2) (lt (uI h x6 v2.toNatClampNeg x8) fun h9 => k2 (v0, v1, v2 + 1) h9)))))
set_option maxHeartbeats 4000000 in
set_option maxRecDepth 20000 in
theorem tb_m_becomes_2 {G : GG} {k2 : (Nat × Int32 × Int32) → Hp → Option (Int32 × Hp)} (hk2 : ∀ s h, T G M_m_becomes 1 cI 2 [(0, .ref s.1), (1, .int s.2.1), (2, .int s.2.2)] [] h (k2 s h)) (v0 : Nat) (v1 : Int32) (v2 : Int32) (h : Hp) : T G M_m_becomes 1 cI 2 [(0, .ref v0), (1, .int v1), (2, .int v2)] [] h (b_m_becomes_2 k2 v0 v1 v2 h) := by
  unfold b_m_becomes_2
  refine q_iload_n (pc := 2) (dq D_m_becomes_0_ok 2 rfl) rfl 2 rfl ?_
  refine q_bipush (pc := 3) (v := 8) (dq D_m_becomes_0_ok 3 rfl) (by decide) ?_
  refine q_ic_ge (pc := 5) 26 (dq D_m_becomes_0_ok 4 rfl) rfl ?_ ?_
  · refine q_aload_n (pc := 26) (dq D_m_becomes_0_ok 15 rfl) rfl 0 rfl ?_
    refine q_getR (pc := 27) (dq D_m_becomes_0_ok 16 rfl) fa_m_17 rfl (fun x1 => ?_)
    refine q_bipush (pc := 30) (v := 7) (dq D_m_becomes_0_ok 17 rfl) (by decide) ?_
    refine q_dup2 (pc := 32) (dq D_m_becomes_0_ok 18 rfl) rfl rfl ?_
    refine r_iald (pc := 33) (dq D_m_becomes_0_ok 19 rfl) (fun x2 => ?_)
    refine q_iload_n (pc := 34) (dq D_m_becomes_0_ok 20 rfl) rfl 1 rfl ?_
    refine q_iadd (pc := 35) (dq D_m_becomes_0_ok 21 rfl) ?_
    refine r_iast (pc := 36) (dq D_m_becomes_0_ok 22 rfl) (fun h3 => ?_)
    refine q_aload_n (pc := 37) (dq D_m_becomes_0_ok 23 rfl) rfl 0 rfl ?_
    refine q_iload_n (pc := 38) (dq D_m_becomes_0_ok 24 rfl) rfl 1 rfl ?_
    refine r_invI (Mc := M_m_good) (pc := 39) (ci := 11) (rest := []) 0 1 [.int v1] (dq D_m_becomes_0_ok 25 rfl) rfl rfl lc_m_good lv_m_good_ ml_m_64 rfl rfl rfl rfl (t_m_good v0 v1 h3) (fun r5 h4 => ?_)
    exact r_reti (pc := 42) (dq D_m_becomes_0_ok 26 rfl) rfl
  · refine q_aload_n (pc := 8) (dq D_m_becomes_0_ok 5 rfl) rfl 0 rfl ?_
    refine q_getR (pc := 9) (dq D_m_becomes_0_ok 6 rfl) fa_m_17 rfl (fun x6 => ?_)
    refine q_iload_n (pc := 12) (dq D_m_becomes_0_ok 7 rfl) rfl 2 rfl ?_
    refine q_aload_n (pc := 13) (dq D_m_becomes_0_ok 8 rfl) rfl 0 rfl ?_
    refine q_getR (pc := 14) (dq D_m_becomes_0_ok 9 rfl) fa_m_21 rfl (fun x7 => ?_)
    refine q_iload_n (pc := 17) (dq D_m_becomes_0_ok 10 rfl) rfl 2 rfl ?_
    refine r_iald (pc := 18) (dq D_m_becomes_0_ok 11 rfl) (fun x8 => ?_)
    refine r_iast (pc := 19) (dq D_m_becomes_0_ok 12 rfl) (fun h9 => ?_)
    refine q_iinc (pc := 20) (v := (1)) (ls' := [(2, .int (v2 + 1)), (0, .ref v0), (1, .int v1)]) (dq D_m_becomes_0_ok 13 rfl) 2 rfl (by decide) rfl rfl ?_
    refine q_goto (pc := 23) 2 (dq D_m_becomes_0_ok 14 rfl) rfl ?_
    exact T.lsub [1, 2, 0] rfl (hk2 (v0, v1, v2 + 1) h9)
noncomputable def l_m_becomes_2 : Nat → (Nat × Int32 × Int32) → Hp → Option (Int32 × Hp) := lp (fun k2 s h => b_m_becomes_2 k2 s.1 s.2.1 s.2.2 h)
set_option maxHeartbeats 4000000 in
set_option maxRecDepth 20000 in
theorem tl_m_becomes_2 {G : GG} (n : Nat) (s : Nat × Int32 × Int32) (h : Hp) : T G M_m_becomes 1 cI 2 [(0, .ref s.1), (1, .int s.2.1), (2, .int s.2.2)] [] h (l_m_becomes_2 n s h) :=
  T.loop (lsOf := fun s => [(0, .ref s.1), (1, .int s.2.1), (2, .int s.2.2)]) (fun k2 hk2 s h => tb_m_becomes_2 hk2 s.1 s.2.1 s.2.2 h) n s h
noncomputable def f_m_becomes (v0 : Nat) (v1 : Int32) (h : Hp) : Option (Int32 × Hp) := lt (0 : Int32) fun y1 => l_m_becomes_2 FU (v0, v1, y1) h
set_option maxHeartbeats 4000000 in
set_option maxRecDepth 20000 in
theorem t_m_becomes {G : GG} (v0 : Nat) (v1 : Int32) (h : Hp) : Mt G M_m_becomes 1 [.ref v0, .int v1] cI h (f_m_becomes v0 v1 h) := by
  refine Mt.ofF (by decide +kernel) rfl (Rt.i rfl rfl) ?_
  show T G M_m_becomes 1 cI 0 [(0, .ref v0), (1, .int v1)] [] h _
  unfold f_m_becomes
  refine q_ic0 (pc := 0) (dq D_m_becomes_0_ok 0 rfl) ?_
  refine r_nmI (fun y1 => ?_)
  refine q_istore_n (pc := 1) (ls' := [(2, .int y1), (0, .ref v0), (1, .int v1)]) (dq D_m_becomes_0_ok 1 rfl) rfl rfl rfl ?_
  exact T.lsub [1, 2, 0] rfl (tl_m_becomes_2 FU (v0, v1, y1) h)
noncomputable def f_m_turn (v0 : Nat) (h : Hp) : Option (Int32 × Hp) := gd (hS h v0 = some (.inl 11)) (lt (uI h v0 0 0) fun h1 => gd (hS h1 v0 = some (.inl 11)) (if hR h1 v0 3 = none then (gd (hS h1 v0 = some (.inl 11)) (bd (f_m_refused v0 (1 : Int32) h1) fun r16 h15 => some (r16, h15))) else (gd (hS h1 v0 = some (.inl 11)) (bR (hR h1 v0 15) fun x3 => gd (ai h1 x3 0 5) (lt (hI h1 x3 (5 : Int32).toNatClampNeg) fun x4 => if x4 = 999999 then (gd (hS h1 v0 = some (.inl 11)) (bd (f_m_refused v0 (3 : Int32) h1) fun r14 h13 => some (r14, h13))) else (gd (hS h1 v0 = some (.inl 11)) (bd (f_m_remembers v0 h1) fun _ h5 => gd (hS h5 v0 = some (.inl 11)) (bd (f_m_works v0 h5) fun _ h7 => gd (hS h7 v0 = some (.inl 11)) (bd (f_m_aTurn v0 h7) fun r10 h9 => gd (hS h9 v0 = some (.inl 11)) (bd (f_m_becomes v0 r10 h9) fun r12 h11 => some (r12, h11)))))))))))
set_option maxHeartbeats 4000000 in
set_option maxRecDepth 20000 in
theorem t_m_turn {G : GG} (v0 : Nat) (h : Hp) : Mt G M_m_turn 3 [.ref v0] cI h (f_m_turn v0 h) := by
  refine Mt.ofF (by decide +kernel) rfl (Rt.i rfl rfl) ?_
  show T G M_m_turn 3 cI 0 [(0, .ref v0)] [] h _
  unfold f_m_turn
  refine q_aload_n (pc := 0) (dq D_m_turn_0_ok 0 rfl) rfl 0 rfl ?_
  refine q_ic0 (pc := 1) (dq D_m_turn_0_ok 1 rfl) ?_
  refine r_putI (pc := 2) (dq D_m_turn_0_ok 2 rfl) fp_m_54 rfl rfl (fun h1 => ?_)
  refine q_aload_n (pc := 5) (dq D_m_turn_0_ok 3 rfl) rfl 0 rfl ?_
  refine q_getnn (pc := 6) 18 (dq D_m_turn_0_ok 4 rfl) (dq D_m_turn_0_ok 5 rfl) rfl fa_m_348 rfl ?_ ?_
  · refine q_aload_n (pc := 18) (dq D_m_turn_0_ok 10 rfl) rfl 0 rfl ?_
    refine q_getR (pc := 19) (dq D_m_turn_0_ok 11 rfl) fa_m_17 rfl (fun x3 => ?_)
    refine q_ic5 (pc := 22) (dq D_m_turn_0_ok 12 rfl) ?_
    refine r_iald (pc := 23) (dq D_m_turn_0_ok 13 rfl) (fun x4 => ?_)
    refine q_ldcw (pc := 24) (v := 999999) (dq D_m_turn_0_ok 14 rfl) lk_m_520 ?_
    refine q_ic_ne (pc := 27) 36 (dq D_m_turn_0_ok 15 rfl) rfl ?_ ?_
    · refine q_aload_n (pc := 36) (dq D_m_turn_0_ok 20 rfl) rfl 0 rfl ?_
      refine r_invU (Mc := M_m_remembers) (pc := 37) (ci := 11) (rest := []) 0 0 [] (dq D_m_turn_0_ok 21 rfl) rfl rfl lc_m_remembers lv_m_remembers_ ml_m_521 rfl rfl rfl rfl (t_m_remembers v0 h1) (fun _ h5 => ?_)
      refine q_aload_n (pc := 40) (dq D_m_turn_0_ok 22 rfl) rfl 0 rfl ?_
      refine r_invU (Mc := M_m_works) (pc := 41) (ci := 11) (rest := []) 0 0 [] (dq D_m_turn_0_ok 23 rfl) rfl rfl lc_m_works lv_m_works_ ml_m_383 rfl rfl rfl rfl (t_m_works v0 h5) (fun _ h7 => ?_)
      refine q_aload_n (pc := 44) (dq D_m_turn_0_ok 24 rfl) rfl 0 rfl ?_
      refine q_aload_n (pc := 45) (dq D_m_turn_0_ok 25 rfl) rfl 0 rfl ?_
      refine r_invI (Mc := M_m_aTurn) (pc := 46) (ci := 11) (rest := [.ref v0]) 2 0 [] (dq D_m_turn_0_ok 26 rfl) rfl rfl lc_m_aTurn lv_m_aTurn_ ml_m_403 rfl rfl rfl rfl (t_m_aTurn v0 h7) (fun r10 h9 => ?_)
      refine r_invI (Mc := M_m_becomes) (pc := 49) (ci := 11) (rest := []) 1 1 [.int r10] (dq D_m_turn_0_ok 27 rfl) rfl rfl lc_m_becomes lv_m_becomes_ ml_m_524 rfl rfl rfl rfl (t_m_becomes v0 r10 h9) (fun r12 h11 => ?_)
      exact r_reti (pc := 52) (dq D_m_turn_0_ok 28 rfl) rfl
    · refine q_aload_n (pc := 30) (dq D_m_turn_0_ok 16 rfl) rfl 0 rfl ?_
      refine q_ic3 (pc := 31) (dq D_m_turn_0_ok 17 rfl) ?_
      refine r_invI (Mc := M_m_refused) (pc := 32) (ci := 11) (rest := []) 0 1 [.int 3] (dq D_m_turn_0_ok 18 rfl) rfl rfl lc_m_refused lv_m_refused_ ml_m_60 rfl rfl rfl rfl (t_m_refused v0 (3 : Int32) h1) (fun r14 h13 => ?_)
      exact r_reti (pc := 35) (dq D_m_turn_0_ok 19 rfl) rfl
  · refine q_aload_n (pc := 12) (dq D_m_turn_0_ok 6 rfl) rfl 0 rfl ?_
    refine q_ic1 (pc := 13) (dq D_m_turn_0_ok 7 rfl) ?_
    refine r_invI (Mc := M_m_refused) (pc := 14) (ci := 11) (rest := []) 0 1 [.int 1] (dq D_m_turn_0_ok 8 rfl) rfl rfl lc_m_refused lv_m_refused_ ml_m_60 rfl rfl rfl rfl (t_m_refused v0 (1 : Int32) h1) (fun r16 h15 => ?_)
    exact r_reti (pc := 17) (dq D_m_turn_0_ok 9 rfl) rfl
noncomputable def f_m_turnBack (v0 : Nat) (h : Hp) : Option (Int32 × Hp) := gd (hS h v0 = some (.inl 11)) (lt (uI h v0 0 0) fun h1 => gd (hS h1 v0 = some (.inl 11)) (if hR h1 v0 3 = none then (gd (hS h1 v0 = some (.inl 11)) (bd (f_m_refused v0 (1 : Int32) h1) fun r16 h15 => some (r16, h15))) else (gd (hS h1 v0 = some (.inl 11)) (bR (hR h1 v0 15) fun x3 => gd (ai h1 x3 0 5) (lt (hI h1 x3 (5 : Int32).toNatClampNeg) fun x4 => if x4 = 0 then (gd (hS h1 v0 = some (.inl 11)) (bd (f_m_refused v0 (5 : Int32) h1) fun r14 h13 => some (r14, h13))) else (gd (hS h1 v0 = some (.inl 11)) (bd (f_m_remembers v0 h1) fun _ h5 => gd (hS h5 v0 = some (.inl 11)) (bd (f_m_works v0 h5) fun _ h7 => gd (hS h7 v0 = some (.inl 11)) (bd (f_m_aTurnBack v0 h7) fun r10 h9 => gd (hS h9 v0 = some (.inl 11)) (bd (f_m_becomes v0 r10 h9) fun r12 h11 => some (r12, h11)))))))))))
set_option maxHeartbeats 4000000 in
set_option maxRecDepth 20000 in
theorem t_m_turnBack {G : GG} (v0 : Nat) (h : Hp) : Mt G M_m_turnBack 2 [.ref v0] cI h (f_m_turnBack v0 h) := by
  refine Mt.ofF (by decide +kernel) rfl (Rt.i rfl rfl) ?_
  show T G M_m_turnBack 2 cI 0 [(0, .ref v0)] [] h _
  unfold f_m_turnBack
  refine q_aload_n (pc := 0) (dq D_m_turnBack_0_ok 0 rfl) rfl 0 rfl ?_
  refine q_ic0 (pc := 1) (dq D_m_turnBack_0_ok 1 rfl) ?_
  refine r_putI (pc := 2) (dq D_m_turnBack_0_ok 2 rfl) fp_m_54 rfl rfl (fun h1 => ?_)
  refine q_aload_n (pc := 5) (dq D_m_turnBack_0_ok 3 rfl) rfl 0 rfl ?_
  refine q_getnn (pc := 6) 18 (dq D_m_turnBack_0_ok 4 rfl) (dq D_m_turnBack_0_ok 5 rfl) rfl fa_m_348 rfl ?_ ?_
  · refine q_aload_n (pc := 18) (dq D_m_turnBack_0_ok 10 rfl) rfl 0 rfl ?_
    refine q_getR (pc := 19) (dq D_m_turnBack_0_ok 11 rfl) fa_m_17 rfl (fun x3 => ?_)
    refine q_ic5 (pc := 22) (dq D_m_turnBack_0_ok 12 rfl) ?_
    refine r_iald (pc := 23) (dq D_m_turnBack_0_ok 13 rfl) (fun x4 => ?_)
    refine p_if_ne (pc := 24) 33 (dq D_m_turnBack_0_ok 14 rfl) rfl ?_ ?_
    · refine q_aload_n (pc := 33) (dq D_m_turnBack_0_ok 19 rfl) rfl 0 rfl ?_
      refine r_invU (Mc := M_m_remembers) (pc := 34) (ci := 11) (rest := []) 0 0 [] (dq D_m_turnBack_0_ok 20 rfl) rfl rfl lc_m_remembers lv_m_remembers_ ml_m_521 rfl rfl rfl rfl (t_m_remembers v0 h1) (fun _ h5 => ?_)
      refine q_aload_n (pc := 37) (dq D_m_turnBack_0_ok 21 rfl) rfl 0 rfl ?_
      refine r_invU (Mc := M_m_works) (pc := 38) (ci := 11) (rest := []) 0 0 [] (dq D_m_turnBack_0_ok 22 rfl) rfl rfl lc_m_works lv_m_works_ ml_m_383 rfl rfl rfl rfl (t_m_works v0 h5) (fun _ h7 => ?_)
      refine q_aload_n (pc := 41) (dq D_m_turnBack_0_ok 23 rfl) rfl 0 rfl ?_
      refine q_aload_n (pc := 42) (dq D_m_turnBack_0_ok 24 rfl) rfl 0 rfl ?_
      refine r_invI (Mc := M_m_aTurnBack) (pc := 43) (ci := 11) (rest := [.ref v0]) 1 0 [] (dq D_m_turnBack_0_ok 25 rfl) rfl rfl lc_m_aTurnBack lv_m_aTurnBack_ ml_m_467 rfl rfl rfl rfl (t_m_aTurnBack v0 h7) (fun r10 h9 => ?_)
      refine r_invI (Mc := M_m_becomes) (pc := 46) (ci := 11) (rest := []) 1 1 [.int r10] (dq D_m_turnBack_0_ok 26 rfl) rfl rfl lc_m_becomes lv_m_becomes_ ml_m_524 rfl rfl rfl rfl (t_m_becomes v0 r10 h9) (fun r12 h11 => ?_)
      exact r_reti (pc := 49) (dq D_m_turnBack_0_ok 27 rfl) rfl
    · refine q_aload_n (pc := 27) (dq D_m_turnBack_0_ok 15 rfl) rfl 0 rfl ?_
      refine q_ic5 (pc := 28) (dq D_m_turnBack_0_ok 16 rfl) ?_
      refine r_invI (Mc := M_m_refused) (pc := 29) (ci := 11) (rest := []) 0 1 [.int 5] (dq D_m_turnBack_0_ok 17 rfl) rfl rfl lc_m_refused lv_m_refused_ ml_m_60 rfl rfl rfl rfl (t_m_refused v0 (5 : Int32) h1) (fun r14 h13 => ?_)
      exact r_reti (pc := 32) (dq D_m_turnBack_0_ok 18 rfl) rfl
  · refine q_aload_n (pc := 12) (dq D_m_turnBack_0_ok 6 rfl) rfl 0 rfl ?_
    refine q_ic1 (pc := 13) (dq D_m_turnBack_0_ok 7 rfl) ?_
    refine r_invI (Mc := M_m_refused) (pc := 14) (ci := 11) (rest := []) 0 1 [.int 1] (dq D_m_turnBack_0_ok 8 rfl) rfl rfl lc_m_refused lv_m_refused_ ml_m_60 rfl rfl rfl rfl (t_m_refused v0 (1 : Int32) h1) (fun r16 h15 => ?_)
    exact r_reti (pc := 17) (dq D_m_turnBack_0_ok 9 rfl) rfl
noncomputable def b_m_oil_90 (v0 : Nat) (s0 : Int32) (s1 : Int32) (s2 : Nat) (h : Hp) : Option (Int32 × Hp) := gd (ai h s2 0 s1) (lt (uI h s2 s1.toNatClampNeg s0) fun h1 => gd (hS h1 v0 = some (.inl 11)) (bR (hR h1 v0 15) fun x2 => gd (ai h1 x2 0 6) (lt (hI h1 x2 (6 : Int32).toNatClampNeg) fun x3 => gd (hS h1 v0 = some (.inl 11)) (bd (f_m_good v0 x3 h1) fun r5 h4 => some (r5, h4)))))
set_option maxHeartbeats 4000000 in
set_option maxRecDepth 20000 in
theorem tb_m_oil_90 {G : GG} (v0 : Nat) (s0 : Int32) (s1 : Int32) (s2 : Nat) (h : Hp) : T G M_m_oil 1 cI 90 [(0, .ref v0)] [.int s0, .int s1, .ref s2] h (b_m_oil_90 v0 s0 s1 s2 h) := by
  unfold b_m_oil_90
  refine r_iast (pc := 90) (dq D_m_oil_0_ok 50 rfl) (fun h1 => ?_)
  refine q_aload_n (pc := 91) (dq D_m_oil_0_ok 51 rfl) rfl 0 rfl ?_
  refine q_aload_n (pc := 92) (dq D_m_oil_0_ok 52 rfl) rfl 0 rfl ?_
  refine q_getR (pc := 93) (dq D_m_oil_0_ok 53 rfl) fa_m_17 rfl (fun x2 => ?_)
  refine q_bipush (pc := 96) (v := 6) (dq D_m_oil_0_ok 54 rfl) (by decide) ?_
  refine r_iald (pc := 98) (dq D_m_oil_0_ok 55 rfl) (fun x3 => ?_)
  refine r_invI (Mc := M_m_good) (pc := 99) (ci := 11) (rest := []) 0 1 [.int x3] (dq D_m_oil_0_ok 56 rfl) rfl rfl lc_m_good lv_m_good_ ml_m_64 rfl rfl rfl rfl (t_m_good v0 x3 h1) (fun r5 h4 => ?_)
  exact r_reti (pc := 102) (dq D_m_oil_0_ok 57 rfl) rfl
noncomputable def f_m_oil (v0 : Nat) (v1 : Int32) (h : Hp) : Option (Int32 × Hp) := gd (hS h v0 = some (.inl 11)) (lt (uI h v0 0 0) fun h1 => gd (hS h1 v0 = some (.inl 11)) (if hR h1 v0 3 = none then (gd (hS h1 v0 = some (.inl 11)) (bd (f_m_refused v0 (1 : Int32) h1) fun r19 h18 => some (r19, h18))) else (bd (f_m_in v1 (1 : Int32) (99 : Int32) h1) fun r4 h3 => if r4 = 0 then (gd (hS h3 v0 = some (.inl 11)) (bd (f_m_refused v0 (2 : Int32) h3) fun r17 h16 => some (r17, h16))) else (gd (hS h3 v0 = some (.inl 11)) (bR (hR h3 v0 15) fun x5 => gd (ai h3 x5 0 6) (lt (hI h3 x5 (6 : Int32).toNatClampNeg) fun x6 => if x6 = 99 then (gd (hS h3 v0 = some (.inl 11)) (bd (f_m_refused v0 (5 : Int32) h3) fun r15 h14 => some (r15, h14))) else (gd (hS h3 v0 = some (.inl 11)) (bd (f_m_remembers v0 h3) fun _ h7 => gd (hS h7 v0 = some (.inl 11)) (bR (hR h7 v0 15) fun x9 => gd (hS h7 v0 = some (.inl 11)) (bR (hR h7 v0 15) fun x10 => gd (ai h7 x10 0 6) (lt (hI h7 x10 (6 : Int32).toNatClampNeg) fun x11 => if (x11 + v1) ≤ 99 then (gd (hS h7 v0 = some (.inl 11)) (bR (hR h7 v0 15) fun x12 => gd (ai h7 x12 0 6) (lt (hI h7 x12 (6 : Int32).toNatClampNeg) fun x13 => b_m_oil_90 v0 (x13 + v1) 6 x9 h7))) else (b_m_oil_90 v0 99 6 x9 h7))))))))))))
set_option maxHeartbeats 4000000 in
set_option maxRecDepth 20000 in
theorem t_m_oil {G : GG} (v0 : Nat) (v1 : Int32) (h : Hp) : Mt G M_m_oil 1 [.ref v0, .int v1] cI h (f_m_oil v0 v1 h) := by
  refine Mt.ofF (by decide +kernel) rfl (Rt.i rfl rfl) ?_
  show T G M_m_oil 1 cI 0 [(0, .ref v0), (1, .int v1)] [] h _
  unfold f_m_oil
  refine q_aload_n (pc := 0) (dq D_m_oil_0_ok 0 rfl) rfl 0 rfl ?_
  refine q_ic0 (pc := 1) (dq D_m_oil_0_ok 1 rfl) ?_
  refine r_putI (pc := 2) (dq D_m_oil_0_ok 2 rfl) fp_m_54 rfl rfl (fun h1 => ?_)
  refine q_aload_n (pc := 5) (dq D_m_oil_0_ok 3 rfl) rfl 0 rfl ?_
  refine q_getnn (pc := 6) 18 (dq D_m_oil_0_ok 4 rfl) (dq D_m_oil_0_ok 5 rfl) rfl fa_m_348 rfl ?_ ?_
  · refine q_iload_n (pc := 18) (dq D_m_oil_0_ok 10 rfl) rfl 1 rfl ?_
    refine q_ic1 (pc := 19) (dq D_m_oil_0_ok 11 rfl) ?_
    refine q_bipush (pc := 20) (v := 99) (dq D_m_oil_0_ok 12 rfl) (by decide) ?_
    refine r_insI (Mc := M_m_in) (pc := 22) (rest := []) 0 3 [.int v1, .int 1, .int 99] (dq D_m_oil_0_ok 13 rfl) lc_m_in ls_m_in ml_m_133 rfl rfl rfl rfl (t_m_in v1 (1 : Int32) (99 : Int32) h1) (fun r4 h3 => ?_)
    refine p_if_ne (pc := 25) 34 (dq D_m_oil_0_ok 14 rfl) rfl ?_ ?_
    · refine q_aload_n (pc := 34) (dq D_m_oil_0_ok 19 rfl) rfl 0 rfl ?_
      refine q_getR (pc := 35) (dq D_m_oil_0_ok 20 rfl) fa_m_17 rfl (fun x5 => ?_)
      refine q_bipush (pc := 38) (v := 6) (dq D_m_oil_0_ok 21 rfl) (by decide) ?_
      refine r_iald (pc := 40) (dq D_m_oil_0_ok 22 rfl) (fun x6 => ?_)
      refine q_bipush (pc := 41) (v := 99) (dq D_m_oil_0_ok 23 rfl) (by decide) ?_
      refine q_ic_ne (pc := 43) 52 (dq D_m_oil_0_ok 24 rfl) rfl ?_ ?_
      · refine q_aload_n (pc := 52) (dq D_m_oil_0_ok 29 rfl) rfl 0 rfl ?_
        refine r_invU (Mc := M_m_remembers) (pc := 53) (ci := 11) (rest := []) 0 0 [] (dq D_m_oil_0_ok 30 rfl) rfl rfl lc_m_remembers lv_m_remembers_ ml_m_521 rfl rfl rfl rfl (t_m_remembers v0 h3) (fun _ h7 => ?_)
        refine q_aload_n (pc := 56) (dq D_m_oil_0_ok 31 rfl) rfl 0 rfl ?_
        refine q_getR (pc := 57) (dq D_m_oil_0_ok 32 rfl) fa_m_17 rfl (fun x9 => ?_)
        refine q_bipush (pc := 60) (v := 6) (dq D_m_oil_0_ok 33 rfl) (by decide) ?_
        refine q_aload_n (pc := 62) (dq D_m_oil_0_ok 34 rfl) rfl 0 rfl ?_
        refine q_getR (pc := 63) (dq D_m_oil_0_ok 35 rfl) fa_m_17 rfl (fun x10 => ?_)
        refine q_bipush (pc := 66) (v := 6) (dq D_m_oil_0_ok 36 rfl) (by decide) ?_
        refine r_iald (pc := 68) (dq D_m_oil_0_ok 37 rfl) (fun x11 => ?_)
        refine q_iload_n (pc := 69) (dq D_m_oil_0_ok 38 rfl) rfl 1 rfl ?_
        refine q_iadd (pc := 70) (dq D_m_oil_0_ok 39 rfl) ?_
        refine q_bipush (pc := 71) (v := 99) (dq D_m_oil_0_ok 40 rfl) (by decide) ?_
        refine q_ic_le (pc := 73) 81 (dq D_m_oil_0_ok 41 rfl) rfl ?_ ?_
        · refine q_aload_n (pc := 81) (dq D_m_oil_0_ok 44 rfl) rfl 0 rfl ?_
          refine q_getR (pc := 82) (dq D_m_oil_0_ok 45 rfl) fa_m_17 rfl (fun x12 => ?_)
          refine q_bipush (pc := 85) (v := 6) (dq D_m_oil_0_ok 46 rfl) (by decide) ?_
          refine r_iald (pc := 87) (dq D_m_oil_0_ok 47 rfl) (fun x13 => ?_)
          refine q_iload_n (pc := 88) (dq D_m_oil_0_ok 48 rfl) rfl 1 rfl ?_
          refine q_iadd (pc := 89) (dq D_m_oil_0_ok 49 rfl) ?_
          exact T.lsub [0] rfl (tb_m_oil_90 v0 (x13 + v1) 6 x9 h7)
        · refine q_bipush (pc := 76) (v := 99) (dq D_m_oil_0_ok 42 rfl) (by decide) ?_
          refine q_goto (pc := 78) 90 (dq D_m_oil_0_ok 43 rfl) rfl ?_
          exact T.lsub [0] rfl (tb_m_oil_90 v0 99 6 x9 h7)
      · refine q_aload_n (pc := 46) (dq D_m_oil_0_ok 25 rfl) rfl 0 rfl ?_
        refine q_ic5 (pc := 47) (dq D_m_oil_0_ok 26 rfl) ?_
        refine r_invI (Mc := M_m_refused) (pc := 48) (ci := 11) (rest := []) 0 1 [.int 5] (dq D_m_oil_0_ok 27 rfl) rfl rfl lc_m_refused lv_m_refused_ ml_m_60 rfl rfl rfl rfl (t_m_refused v0 (5 : Int32) h3) (fun r15 h14 => ?_)
        exact r_reti (pc := 51) (dq D_m_oil_0_ok 28 rfl) rfl
    · refine q_aload_n (pc := 28) (dq D_m_oil_0_ok 15 rfl) rfl 0 rfl ?_
      refine q_ic2 (pc := 29) (dq D_m_oil_0_ok 16 rfl) ?_
      refine r_invI (Mc := M_m_refused) (pc := 30) (ci := 11) (rest := []) 0 1 [.int 2] (dq D_m_oil_0_ok 17 rfl) rfl rfl lc_m_refused lv_m_refused_ ml_m_60 rfl rfl rfl rfl (t_m_refused v0 (2 : Int32) h3) (fun r17 h16 => ?_)
      exact r_reti (pc := 33) (dq D_m_oil_0_ok 18 rfl) rfl
  · refine q_aload_n (pc := 12) (dq D_m_oil_0_ok 6 rfl) rfl 0 rfl ?_
    refine q_ic1 (pc := 13) (dq D_m_oil_0_ok 7 rfl) ?_
    refine r_invI (Mc := M_m_refused) (pc := 14) (ci := 11) (rest := []) 0 1 [.int 1] (dq D_m_oil_0_ok 8 rfl) rfl rfl lc_m_refused lv_m_refused_ ml_m_60 rfl rfl rfl rfl (t_m_refused v0 (1 : Int32) h1) (fun r19 h18 => ?_)
    exact r_reti (pc := 17) (dq D_m_oil_0_ok 9 rfl) rfl
noncomputable def b_m_set_50 (v0 : Nat) (h : Hp) : Option (Int32 × Hp) := gd (hS h v0 = some (.inl 11)) (bd (f_m_denied v0 (2 : Int32) h) fun r2 h1 => gd (zb r2) (some (r2, h1)))
set_option maxHeartbeats 4000000 in
set_option maxRecDepth 20000 in
theorem tb_m_set_50 {G : GG} (v0 : Nat) (h : Hp) : T G M_m_set 2 cI 50 [(0, .ref v0)] [] h (b_m_set_50 v0 h) := by
  unfold b_m_set_50
  refine q_aload_n (pc := 50) (dq D_m_set_0_ok 28 rfl) rfl 0 rfl ?_
  refine q_ic2 (pc := 51) (dq D_m_set_0_ok 29 rfl) ?_
  refine r_invI (Mc := M_m_denied) (pc := 52) (ci := 11) (rest := []) 1 1 [.int 2] (dq D_m_set_0_ok 30 rfl) rfl rfl lc_m_denied lv_m_denied_ ml_m_527 rfl rfl rfl rfl (t_m_denied v0 (2 : Int32) h) (fun r2 h1 => ?_)
  exact r_retz (pc := 55) (dq D_m_set_0_ok 31 rfl) rfl
noncomputable def f_m_set (v0 : Nat) (v1 : Int32) (v2 : Int32) (h : Hp) : Option (Int32 × Hp) := gd (hS h v0 = some (.inl 11)) (lt (uI h v0 0 0) fun h1 => gd (hS h1 v0 = some (.inl 11)) (bd (f_m_isWheel v0 v1 h1) fun r3 h2 => if r3 = 0 then (gd (hS h2 v0 = some (.inl 11)) (bd (f_m_denied v0 (1 : Int32) h2) fun r23 h22 => gd (zb r23) (some (r23, h22)))) else (gd (hS h2 v0 = some (.inl 11)) (bR (hR h2 v0 3) fun x4 => gd (hS h2 x4 = some (.inl 12)) (bR (hR h2 x4 11) fun x5 => gd (ai h2 x5 0 v1) (lt (hI h2 x5 v1.toNatClampNeg) fun x6 => bd (f_m_in v2 (0 : Int32) (x6 - 1) h2) fun r8 h7 => if r8 = 0 then (b_m_set_50 v0 h7) else (gd (hS h7 v0 = some (.inl 11)) (bR (hR h7 v0 3) fun x9 => gd (hS h7 x9 = some (.inl 12)) (bd (f_n_isGone x9 v1 v2 h7) fun r11 h10 => if r11 = 0 then (gd (hS h10 v0 = some (.inl 11)) (bR (hR h10 v0 15) fun x12 => gd (ai h10 x12 0 v1) (lt (hI h10 x12 v1.toNatClampNeg) fun x13 => if x13 = v2 then (gd (hS h10 v0 = some (.inl 11)) (bd (f_m_denied v0 (5 : Int32) h10) fun r21 h20 => gd (zb r21) (some (r21, h20)))) else (gd (hS h10 v0 = some (.inl 11)) (bd (f_m_remembers v0 h10) fun _ h14 => gd (hS h14 v0 = some (.inl 11)) (bR (hR h14 v0 15) fun x16 => gd (ai h14 x16 0 v1) (lt (uI h14 x16 v1.toNatClampNeg v2) fun h17 => gd (hS h17 v0 = some (.inl 11)) (bd (f_m_granted v0 h17) fun r19 h18 => gd (zb r19) (some (r19, h18)))))))))) else (b_m_set_50 v0 h10))))))))))
set_option maxHeartbeats 4000000 in
set_option maxRecDepth 20000 in
theorem t_m_set {G : GG} (v0 : Nat) (v1 : Int32) (v2 : Int32) (h : Hp) : Mt G M_m_set 2 [.ref v0, .int v1, .int v2] cI h (f_m_set v0 v1 v2 h) := by
  refine Mt.ofF (by decide +kernel) rfl (Rt.z rfl rfl) ?_
  show T G M_m_set 2 cI 0 [(0, .ref v0), (1, .int v1), (2, .int v2)] [] h _
  unfold f_m_set
  refine q_aload_n (pc := 0) (dq D_m_set_0_ok 0 rfl) rfl 0 rfl ?_
  refine q_ic0 (pc := 1) (dq D_m_set_0_ok 1 rfl) ?_
  refine r_putI (pc := 2) (dq D_m_set_0_ok 2 rfl) fp_m_54 rfl rfl (fun h1 => ?_)
  refine q_aload_n (pc := 5) (dq D_m_set_0_ok 3 rfl) rfl 0 rfl ?_
  refine q_iload_n (pc := 6) (dq D_m_set_0_ok 4 rfl) rfl 1 rfl ?_
  refine r_invI (Mc := M_m_isWheel) (pc := 7) (ci := 11) (rest := []) 0 1 [.int v1] (dq D_m_set_0_ok 5 rfl) rfl rfl lc_m_isWheel lv_m_isWheel_ ml_m_357 rfl rfl rfl rfl (t_m_isWheel v0 v1 h1) (fun r3 h2 => ?_)
  refine p_if_ne (pc := 10) 19 (dq D_m_set_0_ok 6 rfl) rfl ?_ ?_
  · refine q_iload_n (pc := 19) (dq D_m_set_0_ok 11 rfl) rfl 2 rfl ?_
    refine q_ic0 (pc := 20) (dq D_m_set_0_ok 12 rfl) ?_
    refine q_aload_n (pc := 21) (dq D_m_set_0_ok 13 rfl) rfl 0 rfl ?_
    refine q_getR (pc := 22) (dq D_m_set_0_ok 14 rfl) fa_m_348 rfl (fun x4 => ?_)
    refine q_getR (pc := 25) (dq D_m_set_0_ok 15 rfl) fa_m_269 rfl (fun x5 => ?_)
    refine q_iload_n (pc := 28) (dq D_m_set_0_ok 16 rfl) rfl 1 rfl ?_
    refine r_iald (pc := 29) (dq D_m_set_0_ok 17 rfl) (fun x6 => ?_)
    refine q_ic1 (pc := 30) (dq D_m_set_0_ok 18 rfl) ?_
    refine q_isub (pc := 31) (dq D_m_set_0_ok 19 rfl) ?_
    refine r_insI (Mc := M_m_in) (pc := 32) (rest := []) 0 3 [.int v2, .int 0, .int (x6 - 1)] (dq D_m_set_0_ok 20 rfl) lc_m_in ls_m_in ml_m_133 rfl rfl rfl rfl (t_m_in v2 (0 : Int32) (x6 - 1) h2) (fun r8 h7 => ?_)
    refine p_if_eq (pc := 35) 50 (dq D_m_set_0_ok 21 rfl) rfl ?_ ?_
    · exact T.lsub [0] rfl (tb_m_set_50 v0 h7)
    · refine q_aload_n (pc := 38) (dq D_m_set_0_ok 22 rfl) rfl 0 rfl ?_
      refine q_getR (pc := 39) (dq D_m_set_0_ok 23 rfl) fa_m_348 rfl (fun x9 => ?_)
      refine q_iload_n (pc := 42) (dq D_m_set_0_ok 24 rfl) rfl 1 rfl ?_
      refine q_iload_n (pc := 43) (dq D_m_set_0_ok 25 rfl) rfl 2 rfl ?_
      refine r_invI (Mc := M_n_isGone) (pc := 44) (ci := 12) (rest := []) 0 2 [.int v1, .int v2] (dq D_m_set_0_ok 26 rfl) rfl rfl lc_n_isGone lv_n_isGone_ ml_m_280 rfl rfl rfl rfl (t_n_isGone x9 v1 v2 h7) (fun r11 h10 => ?_)
      refine p_if_eq (pc := 47) 56 (dq D_m_set_0_ok 27 rfl) rfl ?_ ?_
      · refine q_aload_n (pc := 56) (dq D_m_set_0_ok 32 rfl) rfl 0 rfl ?_
        refine q_getR (pc := 57) (dq D_m_set_0_ok 33 rfl) fa_m_17 rfl (fun x12 => ?_)
        refine q_iload_n (pc := 60) (dq D_m_set_0_ok 34 rfl) rfl 1 rfl ?_
        refine r_iald (pc := 61) (dq D_m_set_0_ok 35 rfl) (fun x13 => ?_)
        refine q_iload_n (pc := 62) (dq D_m_set_0_ok 36 rfl) rfl 2 rfl ?_
        refine q_ic_ne (pc := 63) 72 (dq D_m_set_0_ok 37 rfl) rfl ?_ ?_
        · refine q_aload_n (pc := 72) (dq D_m_set_0_ok 42 rfl) rfl 0 rfl ?_
          refine r_invU (Mc := M_m_remembers) (pc := 73) (ci := 11) (rest := []) 0 0 [] (dq D_m_set_0_ok 43 rfl) rfl rfl lc_m_remembers lv_m_remembers_ ml_m_521 rfl rfl rfl rfl (t_m_remembers v0 h10) (fun _ h14 => ?_)
          refine q_aload_n (pc := 76) (dq D_m_set_0_ok 44 rfl) rfl 0 rfl ?_
          refine q_getR (pc := 77) (dq D_m_set_0_ok 45 rfl) fa_m_17 rfl (fun x16 => ?_)
          refine q_iload_n (pc := 80) (dq D_m_set_0_ok 46 rfl) rfl 1 rfl ?_
          refine q_iload_n (pc := 81) (dq D_m_set_0_ok 47 rfl) rfl 2 rfl ?_
          refine r_iast (pc := 82) (dq D_m_set_0_ok 48 rfl) (fun h17 => ?_)
          refine q_aload_n (pc := 83) (dq D_m_set_0_ok 49 rfl) rfl 0 rfl ?_
          refine r_invI (Mc := M_m_granted) (pc := 84) (ci := 11) (rest := []) 1 0 [] (dq D_m_set_0_ok 50 rfl) rfl rfl lc_m_granted lv_m_granted_ ml_m_530 rfl rfl rfl rfl (t_m_granted v0 h17) (fun r19 h18 => ?_)
          exact r_retz (pc := 87) (dq D_m_set_0_ok 51 rfl) rfl
        · refine q_aload_n (pc := 66) (dq D_m_set_0_ok 38 rfl) rfl 0 rfl ?_
          refine q_ic5 (pc := 67) (dq D_m_set_0_ok 39 rfl) ?_
          refine r_invI (Mc := M_m_denied) (pc := 68) (ci := 11) (rest := []) 1 1 [.int 5] (dq D_m_set_0_ok 40 rfl) rfl rfl lc_m_denied lv_m_denied_ ml_m_527 rfl rfl rfl rfl (t_m_denied v0 (5 : Int32) h10) (fun r21 h20 => ?_)
          exact r_retz (pc := 71) (dq D_m_set_0_ok 41 rfl) rfl
      · exact T.lsub [0] rfl (tb_m_set_50 v0 h10)
  · refine q_aload_n (pc := 13) (dq D_m_set_0_ok 7 rfl) rfl 0 rfl ?_
    refine q_ic1 (pc := 14) (dq D_m_set_0_ok 8 rfl) ?_
    refine r_invI (Mc := M_m_denied) (pc := 15) (ci := 11) (rest := []) 1 1 [.int 1] (dq D_m_set_0_ok 9 rfl) rfl rfl lc_m_denied lv_m_denied_ ml_m_527 rfl rfl rfl rfl (t_m_denied v0 (1 : Int32) h2) (fun r23 h22 => ?_)
    exact r_retz (pc := 18) (dq D_m_set_0_ok 10 rfl) rfl
noncomputable def b_m_undo_38 (k38 : (Nat × Int32) → Hp → Option (Int32 × Hp)) (v0 : Nat) (v1 : Int32) (h : Hp) : Option (Int32 × Hp) := if 8 ≤ v1 then (gd (hS h v0 = some (.inl 11)) (bd (f_m_granted v0 h) fun r2 h1 => gd (zb r2) (some (r2, h1)))) else (gd (hS h v0 = some (.inl 11)) (bR (hR h v0 15) fun x3 => gd (hS h v0 = some (.inl 11)) (bR (hR h v0 17) fun x4 => gd (hS h v0 = some (.inl 11)) (lt (hI h v0 19) fun x5 => gd (ai h x4 0 ((8 * x5) + v1)) (lt (hI h x4 ((8 * x5) + v1).toNatClampNeg) fun x6 => gd (ai h x3 0 v1) (lt (uI h x3 v1.toNatClampNeg x6) fun h7 => k38 (v0, v1 + 1) h7))))))
set_option maxHeartbeats 4000000 in
set_option maxRecDepth 20000 in
theorem tb_m_undo_38 {G : GG} {k38 : (Nat × Int32) → Hp → Option (Int32 × Hp)} (hk38 : ∀ s h, T G M_m_undo 2 cI 38 [(0, .ref s.1), (1, .int s.2)] [] h (k38 s h)) (v0 : Nat) (v1 : Int32) (h : Hp) : T G M_m_undo 2 cI 38 [(0, .ref v0), (1, .int v1)] [] h (b_m_undo_38 k38 v0 v1 h) := by
  unfold b_m_undo_38
  refine q_iload_n (pc := 38) (dq D_m_undo_0_ok 21 rfl) rfl 1 rfl ?_
  refine q_bipush (pc := 39) (v := 8) (dq D_m_undo_0_ok 22 rfl) (by decide) ?_
  refine q_ic_ge (pc := 41) 70 (dq D_m_undo_0_ok 23 rfl) rfl ?_ ?_
  · refine q_aload_n (pc := 70) (dq D_m_undo_0_ok 39 rfl) rfl 0 rfl ?_
    refine r_invI (Mc := M_m_granted) (pc := 71) (ci := 11) (rest := []) 1 0 [] (dq D_m_undo_0_ok 40 rfl) rfl rfl lc_m_granted lv_m_granted_ ml_m_530 rfl rfl rfl rfl (t_m_granted v0 h) (fun r2 h1 => ?_)
    exact r_retz (pc := 74) (dq D_m_undo_0_ok 41 rfl) rfl
  · refine q_aload_n (pc := 44) (dq D_m_undo_0_ok 24 rfl) rfl 0 rfl ?_
    refine q_getR (pc := 45) (dq D_m_undo_0_ok 25 rfl) fa_m_17 rfl (fun x3 => ?_)
    refine q_iload_n (pc := 48) (dq D_m_undo_0_ok 26 rfl) rfl 1 rfl ?_
    refine q_aload_n (pc := 49) (dq D_m_undo_0_ok 27 rfl) rfl 0 rfl ?_
    refine q_getR (pc := 50) (dq D_m_undo_0_ok 28 rfl) fa_m_24 rfl (fun x4 => ?_)
    refine q_bipush (pc := 53) (v := 8) (dq D_m_undo_0_ok 29 rfl) (by decide) ?_
    refine q_aload_n (pc := 55) (dq D_m_undo_0_ok 30 rfl) rfl 0 rfl ?_
    refine r_getI (pc := 56) (dq D_m_undo_0_ok 31 rfl) fa_m_351 rfl (fun x5 => ?_)
    refine q_imul (pc := 59) (dq D_m_undo_0_ok 32 rfl) ?_
    refine q_iload_n (pc := 60) (dq D_m_undo_0_ok 33 rfl) rfl 1 rfl ?_
    refine q_iadd (pc := 61) (dq D_m_undo_0_ok 34 rfl) ?_
    refine r_iald (pc := 62) (dq D_m_undo_0_ok 35 rfl) (fun x6 => ?_)
    refine r_iast (pc := 63) (dq D_m_undo_0_ok 36 rfl) (fun h7 => ?_)
    refine q_iinc (pc := 64) (v := (1)) (ls' := [(1, .int (v1 + 1)), (0, .ref v0)]) (dq D_m_undo_0_ok 37 rfl) 1 rfl (by decide) rfl rfl ?_
    refine q_goto (pc := 67) 38 (dq D_m_undo_0_ok 38 rfl) rfl ?_
    exact T.lsub [1, 0] rfl (hk38 (v0, v1 + 1) h7)
noncomputable def l_m_undo_38 : Nat → (Nat × Int32) → Hp → Option (Int32 × Hp) := lp (fun k38 s h => b_m_undo_38 k38 s.1 s.2 h)
set_option maxHeartbeats 4000000 in
set_option maxRecDepth 20000 in
theorem tl_m_undo_38 {G : GG} (n : Nat) (s : Nat × Int32) (h : Hp) : T G M_m_undo 2 cI 38 [(0, .ref s.1), (1, .int s.2)] [] h (l_m_undo_38 n s h) :=
  T.loop (lsOf := fun s => [(0, .ref s.1), (1, .int s.2)]) (fun k38 hk38 s h => tb_m_undo_38 hk38 s.1 s.2 h) n s h
noncomputable def b_m_undo_19 (v0 : Nat) (h : Hp) : Option (Int32 × Hp) := gd (hS h v0 = some (.inl 11)) (bd (f_m_denied v0 (6 : Int32) h) fun r2 h1 => gd (zb r2) (some (r2, h1)))
set_option maxHeartbeats 4000000 in
set_option maxRecDepth 20000 in
theorem tb_m_undo_19 {G : GG} (v0 : Nat) (h : Hp) : T G M_m_undo 2 cI 19 [(0, .ref v0)] [] h (b_m_undo_19 v0 h) := by
  unfold b_m_undo_19
  refine q_aload_n (pc := 19) (dq D_m_undo_0_ok 9 rfl) rfl 0 rfl ?_
  refine q_bipush (pc := 20) (v := 6) (dq D_m_undo_0_ok 10 rfl) (by decide) ?_
  refine r_invI (Mc := M_m_denied) (pc := 22) (ci := 11) (rest := []) 1 1 [.int 6] (dq D_m_undo_0_ok 11 rfl) rfl rfl lc_m_denied lv_m_denied_ ml_m_527 rfl rfl rfl rfl (t_m_denied v0 (6 : Int32) h) (fun r2 h1 => ?_)
  exact r_retz (pc := 25) (dq D_m_undo_0_ok 12 rfl) rfl
noncomputable def f_m_undo (v0 : Nat) (h : Hp) : Option (Int32 × Hp) := gd (hS h v0 = some (.inl 11)) (lt (uI h v0 0 0) fun h1 => gd (hS h1 v0 = some (.inl 11)) (if hR h1 v0 3 = none then (b_m_undo_19 v0 h1) else (gd (hS h1 v0 = some (.inl 11)) (lt (hI h1 v0 19) fun x3 => if x3 = 0 then (b_m_undo_19 v0 h1) else (gd (hS h1 v0 = some (.inl 11)) (lt (hI h1 v0 19) fun x4 => gd (hS h1 v0 = some (.inl 11)) (lt (uI h1 v0 19 (x4 - 1)) fun h5 => lt (0 : Int32) fun y6 => l_m_undo_38 FU (v0, y6) h5)))))))
set_option maxHeartbeats 4000000 in
set_option maxRecDepth 20000 in
theorem t_m_undo {G : GG} (v0 : Nat) (h : Hp) : Mt G M_m_undo 2 [.ref v0] cI h (f_m_undo v0 h) := by
  refine Mt.ofF (by decide +kernel) rfl (Rt.z rfl rfl) ?_
  show T G M_m_undo 2 cI 0 [(0, .ref v0)] [] h _
  unfold f_m_undo
  refine q_aload_n (pc := 0) (dq D_m_undo_0_ok 0 rfl) rfl 0 rfl ?_
  refine q_ic0 (pc := 1) (dq D_m_undo_0_ok 1 rfl) ?_
  refine r_putI (pc := 2) (dq D_m_undo_0_ok 2 rfl) fp_m_54 rfl rfl (fun h1 => ?_)
  refine q_aload_n (pc := 5) (dq D_m_undo_0_ok 3 rfl) rfl 0 rfl ?_
  refine q_getnu (pc := 6) 19 (dq D_m_undo_0_ok 4 rfl) (dq D_m_undo_0_ok 5 rfl) rfl fa_m_348 rfl ?_ ?_
  · exact T.lsub [0] rfl (tb_m_undo_19 v0 h1)
  · refine q_aload_n (pc := 12) (dq D_m_undo_0_ok 6 rfl) rfl 0 rfl ?_
    refine r_getI (pc := 13) (dq D_m_undo_0_ok 7 rfl) fa_m_351 rfl (fun x3 => ?_)
    refine p_if_ne (pc := 16) 26 (dq D_m_undo_0_ok 8 rfl) rfl ?_ ?_
    · refine q_aload_n (pc := 26) (dq D_m_undo_0_ok 13 rfl) rfl 0 rfl ?_
      refine q_dup (pc := 27) (dq D_m_undo_0_ok 14 rfl) rfl ?_
      refine r_getI (pc := 28) (dq D_m_undo_0_ok 15 rfl) fa_m_351 rfl (fun x4 => ?_)
      refine q_ic1 (pc := 31) (dq D_m_undo_0_ok 16 rfl) ?_
      refine q_isub (pc := 32) (dq D_m_undo_0_ok 17 rfl) ?_
      refine r_putI (pc := 33) (dq D_m_undo_0_ok 18 rfl) fp_m_351 rfl rfl (fun h5 => ?_)
      refine q_ic0 (pc := 36) (dq D_m_undo_0_ok 19 rfl) ?_
      refine r_nmI (fun y6 => ?_)
      refine q_istore_n (pc := 37) (ls' := [(1, .int y6), (0, .ref v0)]) (dq D_m_undo_0_ok 20 rfl) rfl rfl rfl ?_
      exact T.lsub [1, 0] rfl (tl_m_undo_38 FU (v0, y6) h5)
    · exact T.lsub [0] rfl (tb_m_undo_19 v0 h1)
noncomputable def b_m_image_34 (k34 : (Nat × Int32) → Hp → Option (Int32 × Hp)) (v0 : Nat) (v1 : Int32) (h : Hp) : Option (Int32 × Hp) := if 8 ≤ v1 then (gd (hS h v0 = some (.inl 11)) (lt (hI h v0 20) fun x1 => gd (hS h v0 = some (.inl 11)) (lt (uI h v0 20 (x1 + 1)) fun h2 => gd (hS h2 v0 = some (.inl 11)) (lt (hI h2 v0 20) fun x3 => gd (hS h2 v0 = some (.inl 11)) (bd (f_m_good v0 (x3 - 1) h2) fun r5 h4 => some (r5, h4)))))) else (gd (hS h v0 = some (.inl 11)) (bR (hR h v0 18) fun x6 => gd (hS h v0 = some (.inl 11)) (lt (hI h v0 20) fun x7 => gd (hS h v0 = some (.inl 11)) (bR (hR h v0 15) fun x8 => gd (ai h x8 0 v1) (lt (hI h x8 v1.toNatClampNeg) fun x9 => gd (ai h x6 0 ((8 * x7) + v1)) (lt (uI h x6 ((8 * x7) + v1).toNatClampNeg x9) fun h10 => k34 (v0, v1 + 1) h10))))))
set_option maxHeartbeats 4000000 in
set_option maxRecDepth 20000 in
theorem tb_m_image_34 {G : GG} {k34 : (Nat × Int32) → Hp → Option (Int32 × Hp)} (hk34 : ∀ s h, T G M_m_image 1 cI 34 [(0, .ref s.1), (1, .int s.2)] [] h (k34 s h)) (v0 : Nat) (v1 : Int32) (h : Hp) : T G M_m_image 1 cI 34 [(0, .ref v0), (1, .int v1)] [] h (b_m_image_34 k34 v0 v1 h) := by
  unfold b_m_image_34
  refine q_iload_n (pc := 34) (dq D_m_image_0_ok 20 rfl) rfl 1 rfl ?_
  refine q_bipush (pc := 35) (v := 8) (dq D_m_image_0_ok 21 rfl) (by decide) ?_
  refine q_ic_ge (pc := 37) 66 (dq D_m_image_0_ok 22 rfl) rfl ?_ ?_
  · refine q_aload_n (pc := 66) (dq D_m_image_0_ok 38 rfl) rfl 0 rfl ?_
    refine q_dup (pc := 67) (dq D_m_image_0_ok 39 rfl) rfl ?_
    refine r_getI (pc := 68) (dq D_m_image_0_ok 40 rfl) fa_m_354 rfl (fun x1 => ?_)
    refine q_ic1 (pc := 71) (dq D_m_image_0_ok 41 rfl) ?_
    refine q_iadd (pc := 72) (dq D_m_image_0_ok 42 rfl) ?_
    refine r_putI (pc := 73) (dq D_m_image_0_ok 43 rfl) fp_m_354 rfl rfl (fun h2 => ?_)
    refine q_aload_n (pc := 76) (dq D_m_image_0_ok 44 rfl) rfl 0 rfl ?_
    refine q_aload_n (pc := 77) (dq D_m_image_0_ok 45 rfl) rfl 0 rfl ?_
    refine r_getI (pc := 78) (dq D_m_image_0_ok 46 rfl) fa_m_354 rfl (fun x3 => ?_)
    refine q_ic1 (pc := 81) (dq D_m_image_0_ok 47 rfl) ?_
    refine q_isub (pc := 82) (dq D_m_image_0_ok 48 rfl) ?_
    refine r_invI (Mc := M_m_good) (pc := 83) (ci := 11) (rest := []) 0 1 [.int (x3 - 1)] (dq D_m_image_0_ok 49 rfl) rfl rfl lc_m_good lv_m_good_ ml_m_64 rfl rfl rfl rfl (t_m_good v0 (x3 - 1) h2) (fun r5 h4 => ?_)
    exact r_reti (pc := 86) (dq D_m_image_0_ok 50 rfl) rfl
  · refine q_aload_n (pc := 40) (dq D_m_image_0_ok 23 rfl) rfl 0 rfl ?_
    refine q_getR (pc := 41) (dq D_m_image_0_ok 24 rfl) fa_m_27 rfl (fun x6 => ?_)
    refine q_bipush (pc := 44) (v := 8) (dq D_m_image_0_ok 25 rfl) (by decide) ?_
    refine q_aload_n (pc := 46) (dq D_m_image_0_ok 26 rfl) rfl 0 rfl ?_
    refine r_getI (pc := 47) (dq D_m_image_0_ok 27 rfl) fa_m_354 rfl (fun x7 => ?_)
    refine q_imul (pc := 50) (dq D_m_image_0_ok 28 rfl) ?_
    refine q_iload_n (pc := 51) (dq D_m_image_0_ok 29 rfl) rfl 1 rfl ?_
    refine q_iadd (pc := 52) (dq D_m_image_0_ok 30 rfl) ?_
    refine q_aload_n (pc := 53) (dq D_m_image_0_ok 31 rfl) rfl 0 rfl ?_
    refine q_getR (pc := 54) (dq D_m_image_0_ok 32 rfl) fa_m_17 rfl (fun x8 => ?_)
    refine q_iload_n (pc := 57) (dq D_m_image_0_ok 33 rfl) rfl 1 rfl ?_
    refine r_iald (pc := 58) (dq D_m_image_0_ok 34 rfl) (fun x9 => ?_)
    refine r_iast (pc := 59) (dq D_m_image_0_ok 35 rfl) (fun h10 => ?_)
    refine q_iinc (pc := 60) (v := (1)) (ls' := [(1, .int (v1 + 1)), (0, .ref v0)]) (dq D_m_image_0_ok 36 rfl) 1 rfl (by decide) rfl rfl ?_
    refine q_goto (pc := 63) 34 (dq D_m_image_0_ok 37 rfl) rfl ?_
    exact T.lsub [1, 0] rfl (hk34 (v0, v1 + 1) h10)
noncomputable def l_m_image_34 : Nat → (Nat × Int32) → Hp → Option (Int32 × Hp) := lp (fun k34 s h => b_m_image_34 k34 s.1 s.2 h)
set_option maxHeartbeats 4000000 in
set_option maxRecDepth 20000 in
theorem tl_m_image_34 {G : GG} (n : Nat) (s : Nat × Int32) (h : Hp) : T G M_m_image 1 cI 34 [(0, .ref s.1), (1, .int s.2)] [] h (l_m_image_34 n s h) :=
  T.loop (lsOf := fun s => [(0, .ref s.1), (1, .int s.2)]) (fun k34 hk34 s h => tb_m_image_34 hk34 s.1 s.2 h) n s h
noncomputable def f_m_image (v0 : Nat) (h : Hp) : Option (Int32 × Hp) := gd (hS h v0 = some (.inl 11)) (lt (uI h v0 0 0) fun h1 => gd (hS h1 v0 = some (.inl 11)) (if hR h1 v0 3 = none then (gd (hS h1 v0 = some (.inl 11)) (bd (f_m_refused v0 (1 : Int32) h1) fun r8 h7 => some (r8, h7))) else (gd (hS h1 v0 = some (.inl 11)) (lt (hI h1 v0 20) fun x3 => if x3 = 3 then (gd (hS h1 v0 = some (.inl 11)) (bd (f_m_refused v0 (3 : Int32) h1) fun r6 h5 => some (r6, h5))) else (lt (0 : Int32) fun y4 => l_m_image_34 FU (v0, y4) h1)))))
set_option maxHeartbeats 4000000 in
set_option maxRecDepth 20000 in
theorem t_m_image {G : GG} (v0 : Nat) (h : Hp) : Mt G M_m_image 1 [.ref v0] cI h (f_m_image v0 h) := by
  refine Mt.ofF (by decide +kernel) rfl (Rt.i rfl rfl) ?_
  show T G M_m_image 1 cI 0 [(0, .ref v0)] [] h _
  unfold f_m_image
  refine q_aload_n (pc := 0) (dq D_m_image_0_ok 0 rfl) rfl 0 rfl ?_
  refine q_ic0 (pc := 1) (dq D_m_image_0_ok 1 rfl) ?_
  refine r_putI (pc := 2) (dq D_m_image_0_ok 2 rfl) fp_m_54 rfl rfl (fun h1 => ?_)
  refine q_aload_n (pc := 5) (dq D_m_image_0_ok 3 rfl) rfl 0 rfl ?_
  refine q_getnn (pc := 6) 18 (dq D_m_image_0_ok 4 rfl) (dq D_m_image_0_ok 5 rfl) rfl fa_m_348 rfl ?_ ?_
  · refine q_aload_n (pc := 18) (dq D_m_image_0_ok 10 rfl) rfl 0 rfl ?_
    refine r_getI (pc := 19) (dq D_m_image_0_ok 11 rfl) fa_m_354 rfl (fun x3 => ?_)
    refine q_ic3 (pc := 22) (dq D_m_image_0_ok 12 rfl) ?_
    refine q_ic_ne (pc := 23) 32 (dq D_m_image_0_ok 13 rfl) rfl ?_ ?_
    · refine q_ic0 (pc := 32) (dq D_m_image_0_ok 18 rfl) ?_
      refine r_nmI (fun y4 => ?_)
      refine q_istore_n (pc := 33) (ls' := [(1, .int y4), (0, .ref v0)]) (dq D_m_image_0_ok 19 rfl) rfl rfl rfl ?_
      exact T.lsub [1, 0] rfl (tl_m_image_34 FU (v0, y4) h1)
    · refine q_aload_n (pc := 26) (dq D_m_image_0_ok 14 rfl) rfl 0 rfl ?_
      refine q_ic3 (pc := 27) (dq D_m_image_0_ok 15 rfl) ?_
      refine r_invI (Mc := M_m_refused) (pc := 28) (ci := 11) (rest := []) 0 1 [.int 3] (dq D_m_image_0_ok 16 rfl) rfl rfl lc_m_refused lv_m_refused_ ml_m_60 rfl rfl rfl rfl (t_m_refused v0 (3 : Int32) h1) (fun r6 h5 => ?_)
      exact r_reti (pc := 31) (dq D_m_image_0_ok 17 rfl) rfl
  · refine q_aload_n (pc := 12) (dq D_m_image_0_ok 6 rfl) rfl 0 rfl ?_
    refine q_ic1 (pc := 13) (dq D_m_image_0_ok 7 rfl) ?_
    refine r_invI (Mc := M_m_refused) (pc := 14) (ci := 11) (rest := []) 0 1 [.int 1] (dq D_m_image_0_ok 8 rfl) rfl rfl lc_m_refused lv_m_refused_ ml_m_60 rfl rfl rfl rfl (t_m_refused v0 (1 : Int32) h1) (fun r8 h7 => ?_)
    exact r_reti (pc := 17) (dq D_m_image_0_ok 9 rfl) rfl
noncomputable def b_m_back_32 (k32 : (Nat × Int32 × Int32) → Hp → Option (Int32 × Hp)) (v0 : Nat) (v1 : Int32) (v2 : Int32) (h : Hp) : Option (Int32 × Hp) := if 8 ≤ v2 then (gd (hS h v0 = some (.inl 11)) (lt (uI h v0 19 0) fun h1 => gd (hS h1 v0 = some (.inl 11)) (bd (f_m_granted v0 h1) fun r3 h2 => gd (zb r3) (some (r3, h2))))) else (gd (hS h v0 = some (.inl 11)) (bR (hR h v0 15) fun x4 => gd (hS h v0 = some (.inl 11)) (bR (hR h v0 18) fun x5 => gd (ai h x5 0 ((8 * v1) + v2)) (lt (hI h x5 ((8 * v1) + v2).toNatClampNeg) fun x6 => gd (ai h x4 0 v2) (lt (uI h x4 v2.toNatClampNeg x6) fun h7 => k32 (v0, v1, v2 + 1) h7)))))
set_option maxHeartbeats 4000000 in
set_option maxRecDepth 20000 in
theorem tb_m_back_32 {G : GG} {k32 : (Nat × Int32 × Int32) → Hp → Option (Int32 × Hp)} (hk32 : ∀ s h, T G M_m_back 2 cI 32 [(0, .ref s.1), (1, .int s.2.1), (2, .int s.2.2)] [] h (k32 s h)) (v0 : Nat) (v1 : Int32) (v2 : Int32) (h : Hp) : T G M_m_back 2 cI 32 [(0, .ref v0), (1, .int v1), (2, .int v2)] [] h (b_m_back_32 k32 v0 v1 v2 h) := by
  unfold b_m_back_32
  refine q_iload_n (pc := 32) (dq D_m_back_0_ok 18 rfl) rfl 2 rfl ?_
  refine q_bipush (pc := 33) (v := 8) (dq D_m_back_0_ok 19 rfl) (by decide) ?_
  refine q_ic_ge (pc := 35) 61 (dq D_m_back_0_ok 20 rfl) rfl ?_ ?_
  · refine q_aload_n (pc := 61) (dq D_m_back_0_ok 35 rfl) rfl 0 rfl ?_
    refine q_ic0 (pc := 62) (dq D_m_back_0_ok 36 rfl) ?_
    refine r_putI (pc := 63) (dq D_m_back_0_ok 37 rfl) fp_m_351 rfl rfl (fun h1 => ?_)
    refine q_aload_n (pc := 66) (dq D_m_back_0_ok 38 rfl) rfl 0 rfl ?_
    refine r_invI (Mc := M_m_granted) (pc := 67) (ci := 11) (rest := []) 1 0 [] (dq D_m_back_0_ok 39 rfl) rfl rfl lc_m_granted lv_m_granted_ ml_m_530 rfl rfl rfl rfl (t_m_granted v0 h1) (fun r3 h2 => ?_)
    exact r_retz (pc := 70) (dq D_m_back_0_ok 40 rfl) rfl
  · refine q_aload_n (pc := 38) (dq D_m_back_0_ok 21 rfl) rfl 0 rfl ?_
    refine q_getR (pc := 39) (dq D_m_back_0_ok 22 rfl) fa_m_17 rfl (fun x4 => ?_)
    refine q_iload_n (pc := 42) (dq D_m_back_0_ok 23 rfl) rfl 2 rfl ?_
    refine q_aload_n (pc := 43) (dq D_m_back_0_ok 24 rfl) rfl 0 rfl ?_
    refine q_getR (pc := 44) (dq D_m_back_0_ok 25 rfl) fa_m_27 rfl (fun x5 => ?_)
    refine q_bipush (pc := 47) (v := 8) (dq D_m_back_0_ok 26 rfl) (by decide) ?_
    refine q_iload_n (pc := 49) (dq D_m_back_0_ok 27 rfl) rfl 1 rfl ?_
    refine q_imul (pc := 50) (dq D_m_back_0_ok 28 rfl) ?_
    refine q_iload_n (pc := 51) (dq D_m_back_0_ok 29 rfl) rfl 2 rfl ?_
    refine q_iadd (pc := 52) (dq D_m_back_0_ok 30 rfl) ?_
    refine r_iald (pc := 53) (dq D_m_back_0_ok 31 rfl) (fun x6 => ?_)
    refine r_iast (pc := 54) (dq D_m_back_0_ok 32 rfl) (fun h7 => ?_)
    refine q_iinc (pc := 55) (v := (1)) (ls' := [(2, .int (v2 + 1)), (0, .ref v0), (1, .int v1)]) (dq D_m_back_0_ok 33 rfl) 2 rfl (by decide) rfl rfl ?_
    refine q_goto (pc := 58) 32 (dq D_m_back_0_ok 34 rfl) rfl ?_
    exact T.lsub [1, 2, 0] rfl (hk32 (v0, v1, v2 + 1) h7)
noncomputable def l_m_back_32 : Nat → (Nat × Int32 × Int32) → Hp → Option (Int32 × Hp) := lp (fun k32 s h => b_m_back_32 k32 s.1 s.2.1 s.2.2 h)
set_option maxHeartbeats 4000000 in
set_option maxRecDepth 20000 in
theorem tl_m_back_32 {G : GG} (n : Nat) (s : Nat × Int32 × Int32) (h : Hp) : T G M_m_back 2 cI 32 [(0, .ref s.1), (1, .int s.2.1), (2, .int s.2.2)] [] h (l_m_back_32 n s h) :=
  T.loop (lsOf := fun s => [(0, .ref s.1), (1, .int s.2.1), (2, .int s.2.2)]) (fun k32 hk32 s h => tb_m_back_32 hk32 s.1 s.2.1 s.2.2 h) n s h
noncomputable def b_m_back_24 (v0 : Nat) (h : Hp) : Option (Int32 × Hp) := gd (hS h v0 = some (.inl 11)) (bd (f_m_denied v0 (1 : Int32) h) fun r2 h1 => gd (zb r2) (some (r2, h1)))
set_option maxHeartbeats 4000000 in
set_option maxRecDepth 20000 in
theorem tb_m_back_24 {G : GG} (v0 : Nat) (h : Hp) : T G M_m_back 2 cI 24 [(0, .ref v0)] [] h (b_m_back_24 v0 h) := by
  unfold b_m_back_24
  refine q_aload_n (pc := 24) (dq D_m_back_0_ok 12 rfl) rfl 0 rfl ?_
  refine q_ic1 (pc := 25) (dq D_m_back_0_ok 13 rfl) ?_
  refine r_invI (Mc := M_m_denied) (pc := 26) (ci := 11) (rest := []) 1 1 [.int 1] (dq D_m_back_0_ok 14 rfl) rfl rfl lc_m_denied lv_m_denied_ ml_m_527 rfl rfl rfl rfl (t_m_denied v0 (1 : Int32) h) (fun r2 h1 => ?_)
  exact r_retz (pc := 29) (dq D_m_back_0_ok 15 rfl) rfl
noncomputable def f_m_back (v0 : Nat) (v1 : Int32) (h : Hp) : Option (Int32 × Hp) := gd (hS h v0 = some (.inl 11)) (lt (uI h v0 0 0) fun h1 => gd (hS h1 v0 = some (.inl 11)) (if hR h1 v0 3 = none then (b_m_back_24 v0 h1) else (if v1 < 0 then (b_m_back_24 v0 h1) else (gd (hS h1 v0 = some (.inl 11)) (lt (hI h1 v0 20) fun x3 => if v1 < x3 then (lt (0 : Int32) fun y4 => l_m_back_32 FU (v0, v1, y4) h1) else (b_m_back_24 v0 h1))))))
set_option maxHeartbeats 4000000 in
set_option maxRecDepth 20000 in
theorem t_m_back {G : GG} (v0 : Nat) (v1 : Int32) (h : Hp) : Mt G M_m_back 2 [.ref v0, .int v1] cI h (f_m_back v0 v1 h) := by
  refine Mt.ofF (by decide +kernel) rfl (Rt.z rfl rfl) ?_
  show T G M_m_back 2 cI 0 [(0, .ref v0), (1, .int v1)] [] h _
  unfold f_m_back
  refine q_aload_n (pc := 0) (dq D_m_back_0_ok 0 rfl) rfl 0 rfl ?_
  refine q_ic0 (pc := 1) (dq D_m_back_0_ok 1 rfl) ?_
  refine r_putI (pc := 2) (dq D_m_back_0_ok 2 rfl) fp_m_54 rfl rfl (fun h1 => ?_)
  refine q_aload_n (pc := 5) (dq D_m_back_0_ok 3 rfl) rfl 0 rfl ?_
  refine q_getnu (pc := 6) 24 (dq D_m_back_0_ok 4 rfl) (dq D_m_back_0_ok 5 rfl) rfl fa_m_348 rfl ?_ ?_
  · exact T.lsub [0] rfl (tb_m_back_24 v0 h1)
  · refine q_iload_n (pc := 12) (dq D_m_back_0_ok 6 rfl) rfl 1 rfl ?_
    refine p_if_lt (pc := 13) 24 (dq D_m_back_0_ok 7 rfl) rfl ?_ ?_
    · exact T.lsub [0] rfl (tb_m_back_24 v0 h1)
    · refine q_iload_n (pc := 16) (dq D_m_back_0_ok 8 rfl) rfl 1 rfl ?_
      refine q_aload_n (pc := 17) (dq D_m_back_0_ok 9 rfl) rfl 0 rfl ?_
      refine r_getI (pc := 18) (dq D_m_back_0_ok 10 rfl) fa_m_354 rfl (fun x3 => ?_)
      refine q_ic_lt (pc := 21) 30 (dq D_m_back_0_ok 11 rfl) rfl ?_ ?_
      · refine q_ic0 (pc := 30) (dq D_m_back_0_ok 16 rfl) ?_
        refine r_nmI (fun y4 => ?_)
        refine q_istore_n (pc := 31) (ls' := [(2, .int y4), (0, .ref v0), (1, .int v1)]) (dq D_m_back_0_ok 17 rfl) rfl rfl rfl ?_
        exact T.lsub [1, 2, 0] rfl (tl_m_back_32 FU (v0, v1, y4) h1)
      · exact T.lsub [0] rfl (tb_m_back_24 v0 h1)
noncomputable def b_m_led_74 (v0 : Nat) (h : Hp) : Option (Int32 × Hp) := gd (hS h v0 = some (.inl 11)) (lt (uI h v0 0 1) fun h1 => some (0, h1))
set_option maxHeartbeats 4000000 in
set_option maxRecDepth 20000 in
theorem tb_m_led_74 {G : GG} (v0 : Nat) (h : Hp) : T G M_m_led 3 cI 74 [(0, .ref v0)] [] h (b_m_led_74 v0 h) := by
  unfold b_m_led_74
  refine q_aload_n (pc := 74) (dq D_m_led_0_ok 36 rfl) rfl 0 rfl ?_
  refine q_ic1 (pc := 75) (dq D_m_led_0_ok 37 rfl) ?_
  refine r_putI (pc := 76) (dq D_m_led_0_ok 38 rfl) fp_m_54 rfl rfl (fun h1 => ?_)
  refine q_ic0 (pc := 79) (dq D_m_led_0_ok 39 rfl) ?_
  exact r_reti (pc := 80) (dq D_m_led_0_ok 40 rfl) rfl
noncomputable def b_m_led_68 (k26 : (Nat × Int32 × Int32 × Int32 × Int32) → Hp → Option (Int32 × Hp)) (v0 : Nat) (v1 : Int32) (v2 : Int32) (v3 : Int32) (v4 : Int32) (h : Hp) : Option (Int32 × Hp) := k26 (v0, v1, v2, v3, v4 + 1) h
set_option maxHeartbeats 4000000 in
set_option maxRecDepth 20000 in
theorem tb_m_led_68 {G : GG} {k26 : (Nat × Int32 × Int32 × Int32 × Int32) → Hp → Option (Int32 × Hp)} (hk26 : ∀ s h, T G M_m_led 3 cI 26 [(0, .ref s.1), (1, .int s.2.1), (2, .int s.2.2.1), (3, .int s.2.2.2.1), (4, .int s.2.2.2.2)] [] h (k26 s h)) (v0 : Nat) (v1 : Int32) (v2 : Int32) (v3 : Int32) (v4 : Int32) (h : Hp) : T G M_m_led 3 cI 68 [(0, .ref v0), (1, .int v1), (2, .int v2), (3, .int v3), (4, .int v4)] [] h (b_m_led_68 k26 v0 v1 v2 v3 v4 h) := by
  unfold b_m_led_68
  refine q_iinc (pc := 68) (v := (1)) (ls' := [(4, .int (v4 + 1)), (0, .ref v0), (1, .int v1), (2, .int v2), (3, .int v3)]) (dq D_m_led_0_ok 34 rfl) 4 rfl (by decide) rfl rfl ?_
  refine q_goto (pc := 71) 26 (dq D_m_led_0_ok 35 rfl) rfl ?_
  exact T.lsub [1, 2, 3, 4, 0] rfl (hk26 (v0, v1, v2, v3, v4 + 1) h)
noncomputable def b_m_led_26 (k26 : (Nat × Int32 × Int32 × Int32 × Int32) → Hp → Option (Int32 × Hp)) (v0 : Nat) (v1 : Int32) (v2 : Int32) (v3 : Int32) (v4 : Int32) (h : Hp) : Option (Int32 × Hp) := gd (hS h v0 = some (.inl 11)) (if hR h v0 3 = none then (b_m_led_74 v0 h) else (gd (hS h v0 = some (.inl 11)) (bR (hR h v0 3) fun x2 => gd (hS h x2 = some (.inl 12)) (lt (hI h x2 4) fun x3 => if x3 ≤ v4 then (b_m_led_74 v0 h) else (bd (f_m_bit v3 v4 h) fun r5 h4 => if r5 = 0 then (b_m_led_68 k26 v0 v1 v2 v3 v4 h4) else (if v2 = v1 then (some (v4, h4)) else (b_m_led_68 k26 v0 v1 (v2 + 1) v3 v4 h4)))))))
set_option maxHeartbeats 4000000 in
set_option maxRecDepth 20000 in
theorem tb_m_led_26 {G : GG} {k26 : (Nat × Int32 × Int32 × Int32 × Int32) → Hp → Option (Int32 × Hp)} (hk26 : ∀ s h, T G M_m_led 3 cI 26 [(0, .ref s.1), (1, .int s.2.1), (2, .int s.2.2.1), (3, .int s.2.2.2.1), (4, .int s.2.2.2.2)] [] h (k26 s h)) (v0 : Nat) (v1 : Int32) (v2 : Int32) (v3 : Int32) (v4 : Int32) (h : Hp) : T G M_m_led 3 cI 26 [(0, .ref v0), (1, .int v1), (2, .int v2), (3, .int v3), (4, .int v4)] [] h (b_m_led_26 k26 v0 v1 v2 v3 v4 h) := by
  unfold b_m_led_26
  refine q_aload_n (pc := 26) (dq D_m_led_0_ok 15 rfl) rfl 0 rfl ?_
  refine q_getnu (pc := 27) 74 (dq D_m_led_0_ok 16 rfl) (dq D_m_led_0_ok 17 rfl) rfl fa_m_348 rfl ?_ ?_
  · exact T.lsub [0] rfl (tb_m_led_74 v0 h)
  · refine q_iload (pc := 33) (dq D_m_led_0_ok 18 rfl) 4 rfl ?_
    refine q_aload_n (pc := 35) (dq D_m_led_0_ok 19 rfl) rfl 0 rfl ?_
    refine q_getR (pc := 36) (dq D_m_led_0_ok 20 rfl) fa_m_348 rfl (fun x2 => ?_)
    refine r_getI (pc := 39) (dq D_m_led_0_ok 21 rfl) fa_m_289 rfl (fun x3 => ?_)
    refine q_ic_ge (pc := 42) 74 (dq D_m_led_0_ok 22 rfl) rfl ?_ ?_
    · exact T.lsub [0] rfl (tb_m_led_74 v0 h)
    · refine q_iload_n (pc := 45) (dq D_m_led_0_ok 23 rfl) rfl 3 rfl ?_
      refine q_iload (pc := 46) (dq D_m_led_0_ok 24 rfl) 4 rfl ?_
      refine r_insI (Mc := M_m_bit) (pc := 48) (rest := []) 0 2 [.int v3, .int v4] (dq D_m_led_0_ok 25 rfl) lc_m_bit ls_m_bit ml_m_292 rfl rfl rfl rfl (t_m_bit v3 v4 h) (fun r5 h4 => ?_)
      refine p_if_ne (pc := 51) 57 (dq D_m_led_0_ok 26 rfl) rfl ?_ ?_
      · refine q_iload_n (pc := 57) (dq D_m_led_0_ok 28 rfl) rfl 2 rfl ?_
        refine q_iload_n (pc := 58) (dq D_m_led_0_ok 29 rfl) rfl 1 rfl ?_
        refine q_ic_ne (pc := 59) 65 (dq D_m_led_0_ok 30 rfl) rfl ?_ ?_
        · refine q_iinc (pc := 65) (v := (1)) (ls' := [(2, .int (v2 + 1)), (0, .ref v0), (1, .int v1), (3, .int v3), (4, .int v4)]) (dq D_m_led_0_ok 33 rfl) 2 rfl (by decide) rfl rfl ?_
          exact T.lsub [1, 2, 0, 3, 4] rfl (tb_m_led_68 hk26 v0 v1 (v2 + 1) v3 v4 h4)
        · refine q_iload (pc := 62) (dq D_m_led_0_ok 31 rfl) 4 rfl ?_
          exact r_reti (pc := 64) (dq D_m_led_0_ok 32 rfl) rfl
      · refine q_goto (pc := 54) 68 (dq D_m_led_0_ok 27 rfl) rfl ?_
        exact T.lsub [0, 1, 2, 3, 4] rfl (tb_m_led_68 hk26 v0 v1 v2 v3 v4 h4)
noncomputable def l_m_led_26 : Nat → (Nat × Int32 × Int32 × Int32 × Int32) → Hp → Option (Int32 × Hp) := lp (fun k26 s h => b_m_led_26 k26 s.1 s.2.1 s.2.2.1 s.2.2.2.1 s.2.2.2.2 h)
set_option maxHeartbeats 4000000 in
set_option maxRecDepth 20000 in
theorem tl_m_led_26 {G : GG} (n : Nat) (s : Nat × Int32 × Int32 × Int32 × Int32) (h : Hp) : T G M_m_led 3 cI 26 [(0, .ref s.1), (1, .int s.2.1), (2, .int s.2.2.1), (3, .int s.2.2.2.1), (4, .int s.2.2.2.2)] [] h (l_m_led_26 n s h) :=
  T.loop (lsOf := fun s => [(0, .ref s.1), (1, .int s.2.1), (2, .int s.2.2.1), (3, .int s.2.2.2.1), (4, .int s.2.2.2.2)]) (fun k26 hk26 s h => tb_m_led_26 hk26 s.1 s.2.1 s.2.2.1 s.2.2.2.1 s.2.2.2.2 h) n s h
noncomputable def b_m_led_22 (v0 : Nat) (v1 : Int32) (v2 : Int32) (s0 : Int32) (h : Hp) : Option (Int32 × Hp) := lt (0 : Int32) fun y1 => l_m_led_26 FU (v0, v1, v2, s0, y1) h
set_option maxHeartbeats 4000000 in
set_option maxRecDepth 20000 in
theorem tb_m_led_22 {G : GG} (v0 : Nat) (v1 : Int32) (v2 : Int32) (s0 : Int32) (h : Hp) : T G M_m_led 3 cI 22 [(0, .ref v0), (1, .int v1), (2, .int v2)] [.int s0] h (b_m_led_22 v0 v1 v2 s0 h) := by
  unfold b_m_led_22
  refine q_istore_n (pc := 22) (ls' := [(3, .int s0), (0, .ref v0), (1, .int v1), (2, .int v2)]) (dq D_m_led_0_ok 12 rfl) rfl rfl rfl ?_
  refine q_ic0 (pc := 23) (dq D_m_led_0_ok 13 rfl) ?_
  refine r_nmI (fun y1 => ?_)
  refine q_istore (pc := 24) (ls' := [(4, .int y1), (3, .int s0), (0, .ref v0), (1, .int v1), (2, .int v2)]) (dq D_m_led_0_ok 14 rfl) rfl rfl ?_
  exact T.lsub [2, 3, 4, 1, 0] rfl (tl_m_led_26 FU (v0, v1, v2, s0, y1) h)
noncomputable def f_m_led (v0 : Nat) (v1 : Int32) (h : Hp) : Option (Int32 × Hp) := gd (hS h v0 = some (.inl 11)) (lt (uI h v0 0 0) fun h1 => lt (0 : Int32) fun y2 => gd (hS h1 v0 = some (.inl 11)) (if hR h1 v0 3 = none then (b_m_led_22 v0 v1 y2 0 h1) else (gd (hS h1 v0 = some (.inl 11)) (bd (f_m_onNow v0 h1) fun r5 h4 => b_m_led_22 v0 v1 y2 r5 h4))))
set_option maxHeartbeats 4000000 in
set_option maxRecDepth 20000 in
theorem t_m_led {G : GG} (v0 : Nat) (v1 : Int32) (h : Hp) : Mt G M_m_led 3 [.ref v0, .int v1] cI h (f_m_led v0 v1 h) := by
  refine Mt.ofF (by decide +kernel) rfl (Rt.i rfl rfl) ?_
  show T G M_m_led 3 cI 0 [(0, .ref v0), (1, .int v1)] [] h _
  unfold f_m_led
  refine q_aload_n (pc := 0) (dq D_m_led_0_ok 0 rfl) rfl 0 rfl ?_
  refine q_ic0 (pc := 1) (dq D_m_led_0_ok 1 rfl) ?_
  refine r_putI (pc := 2) (dq D_m_led_0_ok 2 rfl) fp_m_54 rfl rfl (fun h1 => ?_)
  refine q_ic0 (pc := 5) (dq D_m_led_0_ok 3 rfl) ?_
  refine r_nmI (fun y2 => ?_)
  refine q_istore_n (pc := 6) (ls' := [(2, .int y2), (0, .ref v0), (1, .int v1)]) (dq D_m_led_0_ok 4 rfl) rfl rfl rfl ?_
  refine q_aload_n (pc := 7) (dq D_m_led_0_ok 5 rfl) rfl 1 rfl ?_
  refine q_getnn (pc := 8) 18 (dq D_m_led_0_ok 6 rfl) (dq D_m_led_0_ok 7 rfl) rfl fa_m_348 rfl ?_ ?_
  · refine q_aload_n (pc := 18) (dq D_m_led_0_ok 10 rfl) rfl 1 rfl ?_
    refine r_invI (Mc := M_m_onNow) (pc := 19) (ci := 11) (rest := []) 2 0 [] (dq D_m_led_0_ok 11 rfl) rfl rfl lc_m_onNow lv_m_onNow_ ml_m_388 rfl rfl rfl rfl (t_m_onNow v0 h1) (fun r5 h4 => ?_)
    exact T.lsub [1, 2, 0] rfl (tb_m_led_22 v0 v1 y2 r5 h4)
  · refine q_ic0 (pc := 14) (dq D_m_led_0_ok 8 rfl) ?_
    refine q_goto (pc := 15) 22 (dq D_m_led_0_ok 9 rfl) rfl ?_
    exact T.lsub [1, 2, 0] rfl (tb_m_led_22 v0 v1 y2 0 h1)
noncomputable def f_m_size (v0 : Nat) (v1 : Int32) (h : Hp) : Option (Int32 × Hp) := gd (hS h v0 = some (.inl 11)) (lt (uI h v0 0 0) fun h1 => if v1 = 10 then (gd (hS h1 v0 = some (.inl 11)) (lt (hI h1 v0 6) fun x23 => some (x23, h1))) else (bd (f_m_in v1 (0 : Int32) (9 : Int32) h1) fun r3 h2 => if r3 = 0 then (some ((-1), h2)) else (gd (hS h2 v0 = some (.inl 11)) (if hR h2 v0 3 = none then (some (0, h2)) else (if v1 = 0 then (gd (hS h2 v0 = some (.inl 11)) (bR (hR h2 v0 3) fun x5 => gd (hS h2 x5 = some (.inl 12)) (lt (hI h2 x5 1) fun x6 => some (x6, h2)))) else (if v1 = 1 then (gd (hS h2 v0 = some (.inl 11)) (bR (hR h2 v0 3) fun x7 => gd (hS h2 x7 = some (.inl 12)) (lt (hI h2 x7 2) fun x8 => some (x8, h2)))) else (if v1 = 2 then (gd (hS h2 v0 = some (.inl 11)) (bR (hR h2 v0 3) fun x9 => gd (hS h2 x9 = some (.inl 12)) (lt (hI h2 x9 3) fun x10 => some (x10, h2)))) else (if v1 = 3 then (gd (hS h2 v0 = some (.inl 11)) (bR (hR h2 v0 3) fun x11 => gd (hS h2 x11 = some (.inl 12)) (lt (hI h2 x11 4) fun x12 => some (x12, h2)))) else (if v1 = 4 then (gd (hS h2 v0 = some (.inl 11)) (bR (hR h2 v0 3) fun x13 => gd (hS h2 x13 = some (.inl 12)) (lt (hI h2 x13 5) fun x14 => some (x14, h2)))) else (if v1 = 5 then (gd (hS h2 v0 = some (.inl 11)) (bR (hR h2 v0 3) fun x15 => gd (hS h2 x15 = some (.inl 12)) (lt (hI h2 x15 6) fun x16 => some (x16, h2)))) else (if v1 = 6 then (gd (hS h2 v0 = some (.inl 11)) (bR (hR h2 v0 3) fun x17 => gd (hS h2 x17 = some (.inl 12)) (lt (hI h2 x17 7) fun x18 => if x18 = ((-1)) then (some (0, h2)) else (some (1, h2))))) else (if v1 = 7 then (gd (hS h2 v0 = some (.inl 11)) (bR (hR h2 v0 3) fun x19 => gd (hS h2 x19 = some (.inl 12)) (lt (hI h2 x19 8) fun x20 => some (x20, h2)))) else (if v1 = 8 then (gd (hS h2 v0 = some (.inl 11)) (lt (hI h2 v0 19) fun x21 => some (x21, h2))) else (gd (hS h2 v0 = some (.inl 11)) (lt (hI h2 v0 20) fun x22 => some (x22, h2))))))))))))))))
set_option maxHeartbeats 4000000 in
set_option maxRecDepth 20000 in
theorem t_m_size {G : GG} (v0 : Nat) (v1 : Int32) (h : Hp) : Mt G M_m_size 1 [.ref v0, .int v1] cI h (f_m_size v0 v1 h) := by
  refine Mt.ofF (by decide +kernel) rfl (Rt.i rfl rfl) ?_
  show T G M_m_size 1 cI 0 [(0, .ref v0), (1, .int v1)] [] h _
  unfold f_m_size
  refine q_aload_n (pc := 0) (dq D_m_size_0_ok 0 rfl) rfl 0 rfl ?_
  refine q_ic0 (pc := 1) (dq D_m_size_0_ok 1 rfl) ?_
  refine r_putI (pc := 2) (dq D_m_size_0_ok 2 rfl) fp_m_54 rfl rfl (fun h1 => ?_)
  refine q_iload_n (pc := 5) (dq D_m_size_0_ok 3 rfl) rfl 1 rfl ?_
  refine q_bipush (pc := 6) (v := 10) (dq D_m_size_0_ok 4 rfl) (by decide) ?_
  refine q_ic_ne (pc := 8) 16 (dq D_m_size_0_ok 5 rfl) rfl ?_ ?_
  · refine q_iload_n (pc := 16) (dq D_m_size_0_ok 9 rfl) rfl 1 rfl ?_
    refine q_ic0 (pc := 17) (dq D_m_size_0_ok 10 rfl) ?_
    refine q_bipush (pc := 18) (v := 9) (dq D_m_size_0_ok 11 rfl) (by decide) ?_
    refine r_insI (Mc := M_m_in) (pc := 20) (rest := []) 0 3 [.int v1, .int 0, .int 9] (dq D_m_size_0_ok 12 rfl) lc_m_in ls_m_in ml_m_133 rfl rfl rfl rfl (t_m_in v1 (0 : Int32) (9 : Int32) h1) (fun r3 h2 => ?_)
    refine p_if_ne (pc := 23) 28 (dq D_m_size_0_ok 13 rfl) rfl ?_ ?_
    · refine q_aload_n (pc := 28) (dq D_m_size_0_ok 16 rfl) rfl 0 rfl ?_
      refine q_getnn (pc := 29) 37 (dq D_m_size_0_ok 17 rfl) (dq D_m_size_0_ok 18 rfl) rfl fa_m_348 rfl ?_ ?_
      · refine q_iload_n (pc := 37) (dq D_m_size_0_ok 21 rfl) rfl 1 rfl ?_
        refine T.ite (fun e => ?_) (fun n0 => ?_)
        · refine r_tin (pc := 38) (c := 0) 88 (dq D_m_size_0_ok 22 rfl) e (by decide) (by decide) rfl rfl ?_
          refine q_aload_n (pc := 88) (dq D_m_size_0_ok 23 rfl) rfl 0 rfl ?_
          refine q_getR (pc := 89) (dq D_m_size_0_ok 24 rfl) fa_m_348 rfl (fun x5 => ?_)
          refine r_getI (pc := 92) (dq D_m_size_0_ok 25 rfl) fa_m_239 rfl (fun x6 => ?_)
          exact r_reti (pc := 95) (dq D_m_size_0_ok 26 rfl) rfl
        refine T.ite (fun e => ?_) (fun n1 => ?_)
        · refine r_tin (pc := 38) (c := 1) 96 (dq D_m_size_0_ok 22 rfl) e (by decide) (by decide) rfl rfl ?_
          refine q_aload_n (pc := 96) (dq D_m_size_0_ok 27 rfl) rfl 0 rfl ?_
          refine q_getR (pc := 97) (dq D_m_size_0_ok 28 rfl) fa_m_348 rfl (fun x7 => ?_)
          refine r_getI (pc := 100) (dq D_m_size_0_ok 29 rfl) fa_m_205 rfl (fun x8 => ?_)
          exact r_reti (pc := 103) (dq D_m_size_0_ok 30 rfl) rfl
        refine T.ite (fun e => ?_) (fun n2 => ?_)
        · refine r_tin (pc := 38) (c := 2) 104 (dq D_m_size_0_ok 22 rfl) e (by decide) (by decide) rfl rfl ?_
          refine q_aload_n (pc := 104) (dq D_m_size_0_ok 31 rfl) rfl 0 rfl ?_
          refine q_getR (pc := 105) (dq D_m_size_0_ok 32 rfl) fa_m_348 rfl (fun x9 => ?_)
          refine r_getI (pc := 108) (dq D_m_size_0_ok 33 rfl) fa_m_286 rfl (fun x10 => ?_)
          exact r_reti (pc := 111) (dq D_m_size_0_ok 34 rfl) rfl
        refine T.ite (fun e => ?_) (fun n3 => ?_)
        · refine r_tin (pc := 38) (c := 3) 112 (dq D_m_size_0_ok 22 rfl) e (by decide) (by decide) rfl rfl ?_
          refine q_aload_n (pc := 112) (dq D_m_size_0_ok 35 rfl) rfl 0 rfl ?_
          refine q_getR (pc := 113) (dq D_m_size_0_ok 36 rfl) fa_m_348 rfl (fun x11 => ?_)
          refine r_getI (pc := 116) (dq D_m_size_0_ok 37 rfl) fa_m_289 rfl (fun x12 => ?_)
          exact r_reti (pc := 119) (dq D_m_size_0_ok 38 rfl) rfl
        refine T.ite (fun e => ?_) (fun n4 => ?_)
        · refine r_tin (pc := 38) (c := 4) 120 (dq D_m_size_0_ok 22 rfl) e (by decide) (by decide) rfl rfl ?_
          refine q_aload_n (pc := 120) (dq D_m_size_0_ok 39 rfl) rfl 0 rfl ?_
          refine q_getR (pc := 121) (dq D_m_size_0_ok 40 rfl) fa_m_348 rfl (fun x13 => ?_)
          refine r_getI (pc := 124) (dq D_m_size_0_ok 41 rfl) fa_m_300 rfl (fun x14 => ?_)
          exact r_reti (pc := 127) (dq D_m_size_0_ok 42 rfl) rfl
        refine T.ite (fun e => ?_) (fun n5 => ?_)
        · refine r_tin (pc := 38) (c := 5) 128 (dq D_m_size_0_ok 22 rfl) e (by decide) (by decide) rfl rfl ?_
          refine q_aload_n (pc := 128) (dq D_m_size_0_ok 43 rfl) rfl 0 rfl ?_
          refine q_getR (pc := 129) (dq D_m_size_0_ok 44 rfl) fa_m_348 rfl (fun x15 => ?_)
          refine r_getI (pc := 132) (dq D_m_size_0_ok 45 rfl) fa_m_325 rfl (fun x16 => ?_)
          exact r_reti (pc := 135) (dq D_m_size_0_ok 46 rfl) rfl
        refine T.ite (fun e => ?_) (fun n6 => ?_)
        · refine r_tin (pc := 38) (c := 6) 136 (dq D_m_size_0_ok 22 rfl) e (by decide) (by decide) rfl rfl ?_
          refine q_aload_n (pc := 136) (dq D_m_size_0_ok 47 rfl) rfl 0 rfl ?_
          refine q_getR (pc := 137) (dq D_m_size_0_ok 48 rfl) fa_m_348 rfl (fun x17 => ?_)
          refine r_getI (pc := 140) (dq D_m_size_0_ok 49 rfl) fa_m_278 rfl (fun x18 => ?_)
          refine q_icm1 (pc := 143) (dq D_m_size_0_ok 50 rfl) ?_
          refine q_ic_ne (pc := 144) 151 (dq D_m_size_0_ok 51 rfl) rfl ?_ ?_
          · refine q_ic1 (pc := 151) (dq D_m_size_0_ok 54 rfl) ?_
            exact r_reti (pc := 152) (dq D_m_size_0_ok 55 rfl) rfl
          · refine q_ic0 (pc := 147) (dq D_m_size_0_ok 52 rfl) ?_
            refine q_goto (pc := 148) 152 (dq D_m_size_0_ok 53 rfl) rfl ?_
            exact r_reti (pc := 152) (dq D_m_size_0_ok 55 rfl) rfl
        refine T.ite (fun e => ?_) (fun n7 => ?_)
        · refine r_tin (pc := 38) (c := 7) 153 (dq D_m_size_0_ok 22 rfl) e (by decide) (by decide) rfl rfl ?_
          refine q_aload_n (pc := 153) (dq D_m_size_0_ok 56 rfl) rfl 0 rfl ?_
          refine q_getR (pc := 154) (dq D_m_size_0_ok 57 rfl) fa_m_348 rfl (fun x19 => ?_)
          refine r_getI (pc := 157) (dq D_m_size_0_ok 58 rfl) fa_m_328 rfl (fun x20 => ?_)
          exact r_reti (pc := 160) (dq D_m_size_0_ok 59 rfl) rfl
        refine T.ite (fun e => ?_) (fun n8 => ?_)
        · refine r_tin (pc := 38) (c := 8) 161 (dq D_m_size_0_ok 22 rfl) e (by decide) (by decide) rfl rfl ?_
          refine q_aload_n (pc := 161) (dq D_m_size_1_ok 0 rfl) rfl 0 rfl ?_
          refine r_getI (pc := 162) (dq D_m_size_1_ok 1 rfl) fa_m_351 rfl (fun x21 => ?_)
          exact r_reti (pc := 165) (dq D_m_size_1_ok 2 rfl) rfl
        refine r_tout (pc := 38) 166 (dq D_m_size_0_ok 22 rfl) (by have e0 := int_ne (z := 0) n0 (by decide); have e1 := int_ne (z := 1) n1 (by decide); have e2 := int_ne (z := 2) n2 (by decide); have e3 := int_ne (z := 3) n3 (by decide); have e4 := int_ne (z := 4) n4 (by decide); have e5 := int_ne (z := 5) n5 (by decide); have e6 := int_ne (z := 6) n6 (by decide); have e7 := int_ne (z := 7) n7 (by decide); have e8 := int_ne (z := 8) n8 (by decide); omega) rfl ?_
        refine q_aload_n (pc := 166) (dq D_m_size_1_ok 3 rfl) rfl 0 rfl ?_
        refine r_getI (pc := 167) (dq D_m_size_1_ok 4 rfl) fa_m_354 rfl (fun x22 => ?_)
        exact r_reti (pc := 170) (dq D_m_size_1_ok 5 rfl) rfl
      · refine q_ic0 (pc := 35) (dq D_m_size_0_ok 19 rfl) ?_
        exact r_reti (pc := 36) (dq D_m_size_0_ok 20 rfl) rfl
    · refine q_icm1 (pc := 26) (dq D_m_size_0_ok 14 rfl) ?_
      exact r_reti (pc := 27) (dq D_m_size_0_ok 15 rfl) rfl
  · refine q_aload_n (pc := 11) (dq D_m_size_0_ok 6 rfl) rfl 0 rfl ?_
    refine r_getI (pc := 12) (dq D_m_size_0_ok 7 rfl) fa_m_341 rfl (fun x23 => ?_)
    exact r_reti (pc := 15) (dq D_m_size_0_ok 8 rfl) rfl
noncomputable def f_m_trouble (v0 : Nat) (h : Hp) : Option (Int32 × Hp) := gd (hS h v0 = some (.inl 11)) (lt (uI h v0 0 0) fun h1 => gd (hS h1 v0 = some (.inl 11)) (lt (hI h1 v0 1) fun x2 => some (x2, h1)))
set_option maxHeartbeats 4000000 in
set_option maxRecDepth 20000 in
theorem t_m_trouble {G : GG} (v0 : Nat) (h : Hp) : Mt G M_m_trouble 0 [.ref v0] cI h (f_m_trouble v0 h) := by
  refine Mt.ofF (by decide +kernel) rfl (Rt.i rfl rfl) ?_
  show T G M_m_trouble 0 cI 0 [(0, .ref v0)] [] h _
  unfold f_m_trouble
  refine q_aload_n (pc := 0) (dq D_m_trouble_0_ok 0 rfl) rfl 0 rfl ?_
  refine q_ic0 (pc := 1) (dq D_m_trouble_0_ok 1 rfl) ?_
  refine r_putI (pc := 2) (dq D_m_trouble_0_ok 2 rfl) fp_m_54 rfl rfl (fun h1 => ?_)
  refine q_aload_n (pc := 5) (dq D_m_trouble_0_ok 3 rfl) rfl 0 rfl ?_
  refine r_getI (pc := 6) (dq D_m_trouble_0_ok 4 rfl) fa_m_57 rfl (fun x2 => ?_)
  exact r_reti (pc := 9) (dq D_m_trouble_0_ok 5 rfl) rfl
noncomputable def f_Law_led (v0 : Nat) (v1 : Int32) (v2 : Nat) (h : Hp) : Option (Int32 × Hp) := gd (hS h v0 = some (.inl 0)) (bd (f_B_led v0 v1 h) fun r2 h1 => gd (ai h1 v2 1 0) (lt (uL h1 v2 (0 : Int32).toNatClampNeg r2.toInt64) fun h3 => some (0, h3)))
set_option maxHeartbeats 4000000 in
set_option maxRecDepth 20000 in
theorem tt_Law_led {G : GG} (v0 : Nat) (v1 : Int32) (v2 : Nat) (h : Hp) : T G M_Law_led 3 cI 0 [(0, .ref v0), (1, .int v1), (2, .ref v2)] [] h (f_Law_led v0 v1 v2 h) := by
  unfold f_Law_led
  refine q_aload_n (pc := 0) (dq D_Law_led_0_ok 0 rfl) rfl 2 rfl ?_
  refine q_ic0 (pc := 1) (dq D_Law_led_0_ok 1 rfl) ?_
  refine q_aload_n (pc := 2) (dq D_Law_led_0_ok 2 rfl) rfl 0 rfl ?_
  refine q_iload_n (pc := 3) (dq D_Law_led_0_ok 3 rfl) rfl 1 rfl ?_
  refine r_invI (Mc := M_B_led) (pc := 4) (ci := 0) (rest := [.int 0, .ref v2]) 2 1 [.int v1] (dq D_Law_led_0_ok 4 rfl) rfl rfl lc_B_led lv_B_led_ ml_Law_7 rfl rfl rfl rfl (t_B_led v0 v1 h) (fun r2 h1 => ?_)
  refine q_i2l (pc := 7) (dq D_Law_led_0_ok 5 rfl) ?_
  refine r_last (pc := 8) (dq D_Law_led_0_ok 6 rfl) (fun h3 => ?_)
  refine q_goto (pc := 9) 15 (dq D_Law_led_0_ok 7 rfl) rfl ?_
  refine q_ic0 (pc := 15) (dq D_Law_led_0_ok 11 rfl) ?_
  exact r_reti (pc := 16) (dq D_Law_led_0_ok 12 rfl) rfl
