noncomputable def f_B_trouble (v0 : Nat) (h : Hp) : Option (Int32 × Hp) := gd (hS h v0 = some (.inl 0)) (lt (hI h v0 15) fun x1 => some (x1, h))
set_option maxHeartbeats 4000000 in
set_option maxRecDepth 20000 in
theorem t_B_trouble {G : GG} (v0 : Nat) (h : Hp) : Mt G M_B_trouble 0 [.ref v0] cI h (f_B_trouble v0 h) := by
  refine Mt.ofF (by decide +kernel) rfl (Rt.i rfl rfl) ?_
  show T G M_B_trouble 0 cI 0 [(0, .ref v0)] [] h _
  unfold f_B_trouble
  refine q_aload_n (pc := 0) (dq D_B_trouble_0_ok 0 rfl) rfl 0 rfl ?_
  refine r_getI (pc := 1) (dq D_B_trouble_0_ok 1 rfl) fa_B_112 rfl (fun x1 => ?_)
  exact r_reti (pc := 4) (dq D_B_trouble_0_ok 2 rfl) rfl
noncomputable def f_m_init (v0 : Nat) (h : Hp) : Option (Unit × Hp) := gd (hS h v0 = some (.inl 11)) (lt (uI h v0 2 ((-1))) fun h1 => gd (1 ≤ (hB h1).1 ∧ 900 ≤ (hB h1).2) (lt (hN h1) fun a2 => lt (uN h1 (.inr (2, 900)) 900) fun h3 => gd (hS h3 v0 = some (.inl 11)) (lt (uR h3 v0 5 (some a2)) fun h4 => gd (1 ≤ (hB h4).1 ∧ 8 ≤ (hB h4).2) (lt (hN h4) fun a5 => lt (uN h4 (.inr (0, 8)) 8) fun h6 => gd (hS h6 v0 = some (.inl 11)) (lt (uR h6 v0 15 (some a5)) fun h7 => gd (1 ≤ (hB h7).1 ∧ 8 ≤ (hB h7).2) (lt (hN h7) fun a8 => lt (uN h7 (.inr (0, 8)) 8) fun h9 => gd (hS h9 v0 = some (.inl 11)) (lt (uR h9 v0 16 (some a8)) fun h10 => gd (1 ≤ (hB h10).1 ∧ 128 ≤ (hB h10).2) (lt (hN h10) fun a11 => lt (uN h10 (.inr (0, 128)) 128) fun h12 => gd (hS h12 v0 = some (.inl 11)) (lt (uR h12 v0 17 (some a11)) fun h13 => gd (1 ≤ (hB h13).1 ∧ 24 ≤ (hB h13).2) (lt (hN h13) fun a14 => lt (uN h13 (.inr (0, 24)) 24) fun h15 => gd (hS h15 v0 = some (.inl 11)) (lt (uR h15 v0 18 (some a14)) fun h16 => gd (1 ≤ (hB h16).1 ∧ 60 ≤ (hB h16).2) (lt (hN h16) fun a17 => lt (uN h16 (.inr (0, 60)) 60) fun h18 => gd (hS h18 v0 = some (.inl 11)) (lt (uR h18 v0 22 (some a17)) fun h19 => gd (1 ≤ (hB h19).1 ∧ 4 ≤ (hB h19).2) (lt (hN h19) fun a20 => lt (uN h19 (.inr (0, 4)) 4) fun h21 => gd (hS h21 v0 = some (.inl 11)) (lt (uR h21 v0 24 (some a20)) fun h22 => gd (1 ≤ (hB h22).1 ∧ 4 ≤ (hB h22).2) (lt (hN h22) fun a23 => lt (uN h22 (.inr (0, 4)) 4) fun h24 => gd (hS h24 v0 = some (.inl 11)) (lt (uR h24 v0 25 (some a23)) fun h25 => gd (1 ≤ (hB h25).1 ∧ 4 ≤ (hB h25).2) (lt (hN h25) fun a26 => lt (uN h25 (.inr (0, 4)) 4) fun h27 => gd (hS h27 v0 = some (.inl 11)) (lt (uR h27 v0 26 (some a26)) fun h28 => gd (1 ≤ (hB h28).1 ∧ 100 ≤ (hB h28).2) (lt (hN h28) fun a29 => lt (uN h28 (.inr (0, 100)) 100) fun h30 => gd (hS h30 v0 = some (.inl 11)) (lt (uR h30 v0 28 (some a29)) fun h31 => gd (1 ≤ (hB h31).1 ∧ 100 ≤ (hB h31).2) (lt (hN h31) fun a32 => lt (uN h31 (.inr (0, 100)) 100) fun h33 => gd (hS h33 v0 = some (.inl 11)) (lt (uR h33 v0 29 (some a32)) fun h34 => gd (1 ≤ (hB h34).1 ∧ 729 ≤ (hB h34).2) (lt (hN h34) fun a35 => lt (uN h34 (.inr (0, 729)) 729) fun h36 => gd (hS h36 v0 = some (.inl 11)) (lt (uR h36 v0 32 (some a35)) fun h37 => gd (1 ≤ (hB h37).1 ∧ 6 ≤ (hB h37).2) (lt (hN h37) fun a38 => lt (uN h37 (.inr (0, 6)) 6) fun h39 => gd (hS h39 v0 = some (.inl 11)) (lt (uR h39 v0 33 (some a38)) fun h40 => some ((), h40))))))))))))))))))))))))))))
set_option maxHeartbeats 4000000 in
set_option maxRecDepth 20000 in
theorem t_m_init {G : GG} (v0 : Nat) (h : Hp) : Mt G M_m_init 1 [.ref v0] cU h (f_m_init v0 h) := by
  refine Mt.ofF (by decide +kernel) rfl (Rt.v rfl rfl) ?_
  show T G M_m_init 1 cU 0 [(0, .ref v0)] [] h _
  unfold f_m_init
  refine q_aload_n (pc := 0) (dq D_m_init_0_ok 0 rfl) rfl 0 rfl ?_
  refine r_obj (pc := 1) (dq D_m_init_0_ok 1 rfl) lob_m lob2 lob3 rfl rfl ?_
  refine q_aload_n (pc := 4) (dq D_m_init_0_ok 2 rfl) rfl 0 rfl ?_
  refine q_icm1 (pc := 5) (dq D_m_init_0_ok 3 rfl) ?_
  refine r_putI (pc := 6) (dq D_m_init_0_ok 4 rfl) fp_m_9_i rfl rfl (fun h1 => ?_)
  refine q_aload_n (pc := 9) (dq D_m_init_0_ok 5 rfl) rfl 0 rfl ?_
  refine q_sipush (pc := 10) (v := 900) (dq D_m_init_0_ok 6 rfl) (by decide) ?_
  refine r_newB (pc := 13) 900 (dq D_m_init_0_ok 7 rfl) lka_B (by decide) (by decide) (by decide) (fun a2 h3 => ?_)
  refine r_putR (pc := 15) (dq D_m_init_0_ok 8 rfl) fp_m_13_i rfl rfl rfl (fun h4 => ?_)
  refine q_aload_n (pc := 18) (dq D_m_init_0_ok 9 rfl) rfl 0 rfl ?_
  refine q_bipush (pc := 19) (v := 8) (dq D_m_init_0_ok 10 rfl) (by decide) ?_
  refine r_newI (pc := 21) 8 (dq D_m_init_0_ok 11 rfl) lka_I (by decide) (by decide) (by decide) (fun a5 h6 => ?_)
  refine r_putR (pc := 23) (dq D_m_init_0_ok 12 rfl) fp_m_17_i rfl rfl rfl (fun h7 => ?_)
  refine q_aload_n (pc := 26) (dq D_m_init_0_ok 13 rfl) rfl 0 rfl ?_
  refine q_bipush (pc := 27) (v := 8) (dq D_m_init_0_ok 14 rfl) (by decide) ?_
  refine r_newI (pc := 29) 8 (dq D_m_init_0_ok 15 rfl) lka_I (by decide) (by decide) (by decide) (fun a8 h9 => ?_)
  refine r_putR (pc := 31) (dq D_m_init_0_ok 16 rfl) fp_m_21_i rfl rfl rfl (fun h10 => ?_)
  refine q_aload_n (pc := 34) (dq D_m_init_0_ok 17 rfl) rfl 0 rfl ?_
  refine q_sipush (pc := 35) (v := 128) (dq D_m_init_0_ok 18 rfl) (by decide) ?_
  refine r_newI (pc := 38) 128 (dq D_m_init_0_ok 19 rfl) lka_I (by decide) (by decide) (by decide) (fun a11 h12 => ?_)
  refine r_putR (pc := 40) (dq D_m_init_0_ok 20 rfl) fp_m_24_i rfl rfl rfl (fun h13 => ?_)
  refine q_aload_n (pc := 43) (dq D_m_init_0_ok 21 rfl) rfl 0 rfl ?_
  refine q_bipush (pc := 44) (v := 24) (dq D_m_init_0_ok 22 rfl) (by decide) ?_
  refine r_newI (pc := 46) 24 (dq D_m_init_0_ok 23 rfl) lka_I (by decide) (by decide) (by decide) (fun a14 h15 => ?_)
  refine r_putR (pc := 48) (dq D_m_init_0_ok 24 rfl) fp_m_27_i rfl rfl rfl (fun h16 => ?_)
  refine q_aload_n (pc := 51) (dq D_m_init_0_ok 25 rfl) rfl 0 rfl ?_
  refine q_bipush (pc := 52) (v := 60) (dq D_m_init_0_ok 26 rfl) (by decide) ?_
  refine r_newI (pc := 54) 60 (dq D_m_init_0_ok 27 rfl) lka_I (by decide) (by decide) (by decide) (fun a17 h18 => ?_)
  refine r_putR (pc := 56) (dq D_m_init_0_ok 28 rfl) fp_m_30_i rfl rfl rfl (fun h19 => ?_)
  refine q_aload_n (pc := 59) (dq D_m_init_0_ok 29 rfl) rfl 0 rfl ?_
  refine q_ic4 (pc := 60) (dq D_m_init_0_ok 30 rfl) ?_
  refine r_newI (pc := 61) 4 (dq D_m_init_0_ok 31 rfl) lka_I (by decide) (by decide) (by decide) (fun a20 h21 => ?_)
  refine r_putR (pc := 63) (dq D_m_init_0_ok 32 rfl) fp_m_33_i rfl rfl rfl (fun h22 => ?_)
  refine q_aload_n (pc := 66) (dq D_m_init_0_ok 33 rfl) rfl 0 rfl ?_
  refine q_ic4 (pc := 67) (dq D_m_init_0_ok 34 rfl) ?_
  refine r_newI (pc := 68) 4 (dq D_m_init_0_ok 35 rfl) lka_I (by decide) (by decide) (by decide) (fun a23 h24 => ?_)
  refine r_putR (pc := 70) (dq D_m_init_0_ok 36 rfl) fp_m_36_i rfl rfl rfl (fun h25 => ?_)
  refine q_aload_n (pc := 73) (dq D_m_init_0_ok 37 rfl) rfl 0 rfl ?_
  refine q_ic4 (pc := 74) (dq D_m_init_0_ok 38 rfl) ?_
  refine r_newI (pc := 75) 4 (dq D_m_init_0_ok 39 rfl) lka_I (by decide) (by decide) (by decide) (fun a26 h27 => ?_)
  refine r_putR (pc := 77) (dq D_m_init_0_ok 40 rfl) fp_m_39_i rfl rfl rfl (fun h28 => ?_)
  refine q_aload_n (pc := 80) (dq D_m_init_0_ok 41 rfl) rfl 0 rfl ?_
  refine q_bipush (pc := 81) (v := 100) (dq D_m_init_0_ok 42 rfl) (by decide) ?_
  refine r_newI (pc := 83) 100 (dq D_m_init_0_ok 43 rfl) lka_I (by decide) (by decide) (by decide) (fun a29 h30 => ?_)
  refine r_putR (pc := 85) (dq D_m_init_0_ok 44 rfl) fp_m_42_i rfl rfl rfl (fun h31 => ?_)
  refine q_aload_n (pc := 88) (dq D_m_init_0_ok 45 rfl) rfl 0 rfl ?_
  refine q_bipush (pc := 89) (v := 100) (dq D_m_init_0_ok 46 rfl) (by decide) ?_
  refine r_newI (pc := 91) 100 (dq D_m_init_0_ok 47 rfl) lka_I (by decide) (by decide) (by decide) (fun a32 h33 => ?_)
  refine r_putR (pc := 93) (dq D_m_init_0_ok 48 rfl) fp_m_45_i rfl rfl rfl (fun h34 => ?_)
  refine q_aload_n (pc := 96) (dq D_m_init_0_ok 49 rfl) rfl 0 rfl ?_
  refine q_sipush (pc := 97) (v := 729) (dq D_m_init_0_ok 50 rfl) (by decide) ?_
  refine r_newI (pc := 100) 729 (dq D_m_init_0_ok 51 rfl) lka_I (by decide) (by decide) (by decide) (fun a35 h36 => ?_)
  refine r_putR (pc := 102) (dq D_m_init_0_ok 52 rfl) fp_m_48_i rfl rfl rfl (fun h37 => ?_)
  refine q_aload_n (pc := 105) (dq D_m_init_0_ok 53 rfl) rfl 0 rfl ?_
  refine q_bipush (pc := 106) (v := 6) (dq D_m_init_0_ok 54 rfl) (by decide) ?_
  refine r_newI (pc := 108) 6 (dq D_m_init_0_ok 55 rfl) lka_I (by decide) (by decide) (by decide) (fun a38 h39 => ?_)
  refine r_putR (pc := 110) (dq D_m_init_0_ok 56 rfl) fp_m_51_i rfl rfl rfl (fun h40 => ?_)
  exact r_retu (pc := 113) (dq D_m_init_0_ok 57 rfl) rfl
noncomputable def f_m_thrown (v0 : Nat) (h : Hp) : Option (Int32 × Hp) := gd (hS h v0 = some (.inl 11)) (lt (hI h v0 0) fun x1 => some (x1, h))
set_option maxHeartbeats 4000000 in
set_option maxRecDepth 20000 in
theorem t_m_thrown {G : GG} (v0 : Nat) (h : Hp) : Mt G M_m_thrown 0 [.ref v0] cI h (f_m_thrown v0 h) := by
  refine Mt.ofF (by decide +kernel) rfl (Rt.i rfl rfl) ?_
  show T G M_m_thrown 0 cI 0 [(0, .ref v0)] [] h _
  unfold f_m_thrown
  refine q_aload_n (pc := 0) (dq D_m_thrown_0_ok 0 rfl) rfl 0 rfl ?_
  refine r_getI (pc := 1) (dq D_m_thrown_0_ok 1 rfl) fa_m_54 rfl (fun x1 => ?_)
  exact r_reti (pc := 4) (dq D_m_thrown_0_ok 2 rfl) rfl
noncomputable def f_m_refused (v0 : Nat) (v1 : Int32) (h : Hp) : Option (Int32 × Hp) := gd (hS h v0 = some (.inl 11)) (lt (uI h v0 1 v1) fun h1 => gd (hS h1 v0 = some (.inl 11)) (lt (uI h1 v0 2 ((-1))) fun h2 => some ((-1), h2)))
set_option maxHeartbeats 4000000 in
set_option maxRecDepth 20000 in
theorem t_m_refused {G : GG} (v0 : Nat) (v1 : Int32) (h : Hp) : Mt G M_m_refused 0 [.ref v0, .int v1] cI h (f_m_refused v0 v1 h) := by
  refine Mt.ofF (by decide +kernel) rfl (Rt.i rfl rfl) ?_
  show T G M_m_refused 0 cI 0 [(0, .ref v0), (1, .int v1)] [] h _
  unfold f_m_refused
  refine q_aload_n (pc := 0) (dq D_m_refused_0_ok 0 rfl) rfl 0 rfl ?_
  refine q_iload_n (pc := 1) (dq D_m_refused_0_ok 1 rfl) rfl 1 rfl ?_
  refine r_putI (pc := 2) (dq D_m_refused_0_ok 2 rfl) fp_m_57 rfl rfl (fun h1 => ?_)
  refine q_aload_n (pc := 5) (dq D_m_refused_0_ok 3 rfl) rfl 0 rfl ?_
  refine q_icm1 (pc := 6) (dq D_m_refused_0_ok 4 rfl) ?_
  refine r_putI (pc := 7) (dq D_m_refused_0_ok 5 rfl) fp_m_9 rfl rfl (fun h2 => ?_)
  refine q_icm1 (pc := 10) (dq D_m_refused_0_ok 6 rfl) ?_
  exact r_reti (pc := 11) (dq D_m_refused_0_ok 7 rfl) rfl
noncomputable def f_m_denied (v0 : Nat) (v1 : Int32) (h : Hp) : Option (Int32 × Hp) := gd (hS h v0 = some (.inl 11)) (bd (f_m_refused v0 v1 h) fun r2 h1 => gd (zb 0) (some (0, h1)))
set_option maxHeartbeats 4000000 in
set_option maxRecDepth 20000 in
theorem t_m_denied {G : GG} (v0 : Nat) (v1 : Int32) (h : Hp) : Mt G M_m_denied 1 [.ref v0, .int v1] cI h (f_m_denied v0 v1 h) := by
  refine Mt.ofF (by decide +kernel) rfl (Rt.z rfl rfl) ?_
  show T G M_m_denied 1 cI 0 [(0, .ref v0), (1, .int v1)] [] h _
  unfold f_m_denied
  refine q_aload_n (pc := 0) (dq D_m_denied_0_ok 0 rfl) rfl 0 rfl ?_
  refine q_iload_n (pc := 1) (dq D_m_denied_0_ok 1 rfl) rfl 1 rfl ?_
  refine r_invI (Mc := M_m_refused) (pc := 2) (ci := 11) (rest := []) 0 1 [.int v1] (dq D_m_denied_0_ok 2 rfl) rfl rfl lc_m_refused lv_m_refused_ ml_m_60 rfl rfl rfl rfl (t_m_refused v0 v1 h) (fun r2 h1 => ?_)
  refine q_pop (pc := 5) (dq D_m_denied_0_ok 3 rfl) rfl ?_
  refine q_ic0 (pc := 6) (dq D_m_denied_0_ok 4 rfl) ?_
  exact r_retz (pc := 7) (dq D_m_denied_0_ok 5 rfl) rfl
noncomputable def f_m_good (v0 : Nat) (v1 : Int32) (h : Hp) : Option (Int32 × Hp) := gd (hS h v0 = some (.inl 11)) (lt (uI h v0 1 0) fun h1 => gd (hS h1 v0 = some (.inl 11)) (lt (uI h1 v0 2 ((-1))) fun h2 => some (v1, h2)))
set_option maxHeartbeats 4000000 in
set_option maxRecDepth 20000 in
theorem t_m_good {G : GG} (v0 : Nat) (v1 : Int32) (h : Hp) : Mt G M_m_good 0 [.ref v0, .int v1] cI h (f_m_good v0 v1 h) := by
  refine Mt.ofF (by decide +kernel) rfl (Rt.i rfl rfl) ?_
  show T G M_m_good 0 cI 0 [(0, .ref v0), (1, .int v1)] [] h _
  unfold f_m_good
  refine q_aload_n (pc := 0) (dq D_m_good_0_ok 0 rfl) rfl 0 rfl ?_
  refine q_ic0 (pc := 1) (dq D_m_good_0_ok 1 rfl) ?_
  refine r_putI (pc := 2) (dq D_m_good_0_ok 2 rfl) fp_m_57 rfl rfl (fun h1 => ?_)
  refine q_aload_n (pc := 5) (dq D_m_good_0_ok 3 rfl) rfl 0 rfl ?_
  refine q_icm1 (pc := 6) (dq D_m_good_0_ok 4 rfl) ?_
  refine r_putI (pc := 7) (dq D_m_good_0_ok 5 rfl) fp_m_9 rfl rfl (fun h2 => ?_)
  refine q_iload_n (pc := 10) (dq D_m_good_0_ok 6 rfl) rfl 1 rfl ?_
  exact r_reti (pc := 11) (dq D_m_good_0_ok 7 rfl) rfl
noncomputable def f_m_granted (v0 : Nat) (h : Hp) : Option (Int32 × Hp) := gd (hS h v0 = some (.inl 11)) (bd (f_m_good v0 (0 : Int32) h) fun r2 h1 => gd (zb 1) (some (1, h1)))
set_option maxHeartbeats 4000000 in
set_option maxRecDepth 20000 in
theorem t_m_granted {G : GG} (v0 : Nat) (h : Hp) : Mt G M_m_granted 1 [.ref v0] cI h (f_m_granted v0 h) := by
  refine Mt.ofF (by decide +kernel) rfl (Rt.z rfl rfl) ?_
  show T G M_m_granted 1 cI 0 [(0, .ref v0)] [] h _
  unfold f_m_granted
  refine q_aload_n (pc := 0) (dq D_m_granted_0_ok 0 rfl) rfl 0 rfl ?_
  refine q_ic0 (pc := 1) (dq D_m_granted_0_ok 1 rfl) ?_
  refine r_invI (Mc := M_m_good) (pc := 2) (ci := 11) (rest := []) 0 1 [.int 0] (dq D_m_granted_0_ok 2 rfl) rfl rfl lc_m_good lv_m_good_ ml_m_64 rfl rfl rfl rfl (t_m_good v0 (0 : Int32) h) (fun r2 h1 => ?_)
  refine q_pop (pc := 5) (dq D_m_granted_0_ok 3 rfl) rfl ?_
  refine q_ic1 (pc := 6) (dq D_m_granted_0_ok 4 rfl) ?_
  exact r_retz (pc := 7) (dq D_m_granted_0_ok 5 rfl) rfl
noncomputable def f_m_in (v0 : Int32) (v1 : Int32) (v2 : Int32) (h : Hp) : Option (Int32 × Hp) := if v0 < v1 then (gd (zb 0) (some (0, h))) else (if v2 < v0 then (gd (zb 0) (some (0, h))) else (gd (zb 1) (some (1, h))))
set_option maxHeartbeats 4000000 in
set_option maxRecDepth 20000 in
theorem t_m_in {G : GG} (v0 : Int32) (v1 : Int32) (v2 : Int32) (h : Hp) : Mt G M_m_in 0 [.int v0, .int v1, .int v2] cI h (f_m_in v0 v1 v2 h) := by
  refine Mt.ofF (by decide +kernel) rfl (Rt.z rfl rfl) ?_
  show T G M_m_in 0 cI 0 [(0, .int v0), (1, .int v1), (2, .int v2)] [] h _
  unfold f_m_in
  refine q_iload_n (pc := 0) (dq D_m_in_0_ok 0 rfl) rfl 0 rfl ?_
  refine q_iload_n (pc := 1) (dq D_m_in_0_ok 1 rfl) rfl 1 rfl ?_
  refine q_ic_lt (pc := 2) 14 (dq D_m_in_0_ok 2 rfl) rfl ?_ ?_
  · refine q_ic0 (pc := 14) (dq D_m_in_0_ok 8 rfl) ?_
    exact r_retz (pc := 15) (dq D_m_in_0_ok 9 rfl) rfl
  · refine q_iload_n (pc := 5) (dq D_m_in_0_ok 3 rfl) rfl 0 rfl ?_
    refine q_iload_n (pc := 6) (dq D_m_in_0_ok 4 rfl) rfl 2 rfl ?_
    refine q_ic_gt (pc := 7) 14 (dq D_m_in_0_ok 5 rfl) rfl ?_ ?_
    · refine q_ic0 (pc := 14) (dq D_m_in_0_ok 8 rfl) ?_
      exact r_retz (pc := 15) (dq D_m_in_0_ok 9 rfl) rfl
    · refine q_ic1 (pc := 10) (dq D_m_in_0_ok 6 rfl) ?_
      refine q_goto (pc := 11) 15 (dq D_m_in_0_ok 7 rfl) rfl ?_
      exact r_retz (pc := 15) (dq D_m_in_0_ok 9 rfl) rfl
noncomputable def f_m_bit (v0 : Int32) (v1 : Int32) (h : Hp) : Option (Int32 × Hp) := if ((v0 >>> (v1 &&& 31)) &&& 1) = 1 then (gd (zb 1) (some (1, h))) else (gd (zb 0) (some (0, h)))
set_option maxHeartbeats 4000000 in
set_option maxRecDepth 20000 in
theorem t_m_bit {G : GG} (v0 : Int32) (v1 : Int32) (h : Hp) : Mt G M_m_bit 0 [.int v0, .int v1] cI h (f_m_bit v0 v1 h) := by
  refine Mt.ofF (by decide +kernel) rfl (Rt.z rfl rfl) ?_
  show T G M_m_bit 0 cI 0 [(0, .int v0), (1, .int v1)] [] h _
  unfold f_m_bit
  refine q_iload_n (pc := 0) (dq D_m_bit_0_ok 0 rfl) rfl 0 rfl ?_
  refine q_iload_n (pc := 1) (dq D_m_bit_0_ok 1 rfl) rfl 1 rfl ?_
  refine q_ishr (pc := 2) (dq D_m_bit_0_ok 2 rfl) ?_
  refine q_ic1 (pc := 3) (dq D_m_bit_0_ok 3 rfl) ?_
  refine q_iand (pc := 4) (dq D_m_bit_0_ok 4 rfl) ?_
  refine q_ic1 (pc := 5) (dq D_m_bit_0_ok 5 rfl) ?_
  refine q_ic_ne (pc := 6) 13 (dq D_m_bit_0_ok 6 rfl) rfl ?_ ?_
  · refine q_ic0 (pc := 13) (dq D_m_bit_0_ok 9 rfl) ?_
    exact r_retz (pc := 14) (dq D_m_bit_0_ok 10 rfl) rfl
  · refine q_ic1 (pc := 9) (dq D_m_bit_0_ok 7 rfl) ?_
    refine q_goto (pc := 10) 14 (dq D_m_bit_0_ok 8 rfl) rfl ?_
    exact r_retz (pc := 14) (dq D_m_bit_0_ok 10 rfl) rfl
noncomputable def b_m_common_6 (k6 : (Int64 × Int64) → Hp → Option (Int64 × Hp)) (v4 : Int64) (v6 : Int64) (h : Hp) : Option (Int64 × Hp) := if (lg_cmp v6 0) = 0 then (some (v4, h)) else (gd (¬ v6 = 0) (lt (lrm v4 v6 : Int64) fun y1 => k6 (v6, y1) h))
set_option maxHeartbeats 4000000 in
set_option maxRecDepth 20000 in
theorem tb_m_common_6 {G : GG} {k6 : (Int64 × Int64) → Hp → Option (Int64 × Hp)} (hk6 : ∀ s h, T G M_m_common 0 cL 6 [(4, .long s.1), (6, .long s.2)] [] h (k6 s h)) (v4 : Int64) (v6 : Int64) (h : Hp) : T G M_m_common 0 cL 6 [(4, .long v4), (6, .long v6)] [] h (b_m_common_6 k6 v4 v6 h) := by
  unfold b_m_common_6
  refine q_lload (pc := 6) (dq D_m_common_0_ok 4 rfl) 1 rfl ?_
  refine q_lconst (pc := 8) (v := 0) (dq D_m_common_0_ok 5 rfl) (by decide) ?_
  refine q_lcmp (pc := 9) (dq D_m_common_0_ok 6 rfl) ?_
  refine p_if_eq (pc := 10) 31 (dq D_m_common_0_ok 7 rfl) rfl ?_ ?_
  · refine q_lload (pc := 31) (dq D_m_common_0_ok 17 rfl) 0 rfl ?_
    exact r_retl (pc := 33) (dq D_m_common_0_ok 18 rfl) rfl
  · refine q_lload (pc := 13) (dq D_m_common_0_ok 8 rfl) 0 rfl ?_
    refine q_lload (pc := 15) (dq D_m_common_0_ok 9 rfl) 1 rfl ?_
    refine q_lrem (pc := 17) (dq D_m_common_0_ok 10 rfl) ?_
    refine r_nmL (fun y1 => ?_)
    refine q_lstore (pc := 18) (ls' := [(8, .long y1), (4, .long v4), (6, .long v6)]) (dq D_m_common_0_ok 11 rfl) rfl rfl ?_
    refine q_lload (pc := 20) (dq D_m_common_0_ok 12 rfl) 2 rfl ?_
    refine q_lstore (pc := 22) (ls' := [(4, .long v6), (8, .long y1), (6, .long v6)]) (dq D_m_common_0_ok 13 rfl) rfl rfl ?_
    refine q_lload (pc := 24) (dq D_m_common_0_ok 14 rfl) 1 rfl ?_
    refine q_lstore (pc := 26) (ls' := [(6, .long y1), (4, .long v6), (8, .long y1)]) (dq D_m_common_0_ok 15 rfl) rfl rfl ?_
    refine q_goto (pc := 28) 6 (dq D_m_common_0_ok 16 rfl) rfl ?_
    exact T.lsub [1, 0] rfl (hk6 (v6, y1) h)
noncomputable def l_m_common_6 : Nat → (Int64 × Int64) → Hp → Option (Int64 × Hp) := lp (fun k6 s h => b_m_common_6 k6 s.1 s.2 h)
set_option maxHeartbeats 4000000 in
set_option maxRecDepth 20000 in
theorem tl_m_common_6 {G : GG} (n : Nat) (s : Int64 × Int64) (h : Hp) : T G M_m_common 0 cL 6 [(4, .long s.1), (6, .long s.2)] [] h (l_m_common_6 n s h) :=
  T.loop (lsOf := fun s => [(4, .long s.1), (6, .long s.2)]) (fun k6 hk6 s h => tb_m_common_6 hk6 s.1 s.2 h) n s h
noncomputable def f_m_common (v0 : Int64) (v2 : Int64) (h : Hp) : Option (Int64 × Hp) := l_m_common_6 FU (v0, v2) h
set_option maxHeartbeats 4000000 in
set_option maxRecDepth 20000 in
theorem t_m_common {G : GG} (v0 : Int64) (v2 : Int64) (h : Hp) : Mt G M_m_common 0 [.long v0, .long v2] cL h (f_m_common v0 v2 h) := by
  refine Mt.ofF (by decide +kernel) rfl (Rt.l rfl rfl) ?_
  show T G M_m_common 0 cL 0 [(0, .long v0), (2, .long v2)] [] h _
  unfold f_m_common
  refine q_lload_n (pc := 0) (dq D_m_common_0_ok 0 rfl) rfl 0 rfl ?_
  refine q_lstore (pc := 1) (ls' := [(4, .long v0), (0, .long v0), (2, .long v2)]) (dq D_m_common_0_ok 1 rfl) rfl rfl ?_
  refine q_lload_n (pc := 3) (dq D_m_common_0_ok 2 rfl) rfl 2 rfl ?_
  refine q_lstore (pc := 4) (ls' := [(6, .long v2), (4, .long v0), (0, .long v0), (2, .long v2)]) (dq D_m_common_0_ok 3 rfl) rfl rfl ?_
  exact T.lsub [1, 0] rfl (tl_m_common_6 FU (v0, v2) h)
noncomputable def b_m_fraction_16 (v1 : Int64) (v3 : Int64) (s0 : Int64) (h : Hp) : Option (Int64 × Hp) := bd (f_m_common v1 v3 h) fun r2 h1 => gd (¬ r2 = 0) (some (s0 / r2, h1))
set_option maxHeartbeats 4000000 in
set_option maxRecDepth 20000 in
theorem tb_m_fraction_16 {G : GG} (v1 : Int64) (v3 : Int64) (s0 : Int64) (h : Hp) : T G M_m_fraction 1 cL 16 [(1, .long v1), (3, .long v3)] [.long s0] h (b_m_fraction_16 v1 v3 s0 h) := by
  unfold b_m_fraction_16
  refine q_lload_n (pc := 16) (dq D_m_fraction_0_ok 9 rfl) rfl 0 rfl ?_
  refine q_lload_n (pc := 17) (dq D_m_fraction_0_ok 10 rfl) rfl 1 rfl ?_
  refine r_insL (Mc := M_m_common) (pc := 18) (rest := [.long s0]) 0 2 [.long v1, .long v3] (dq D_m_fraction_0_ok 11 rfl) lc_m_common ls_m_common ml_m_67 rfl rfl rfl rfl (t_m_common v1 v3 h) (fun r2 h1 => ?_)
  refine q_ldiv (pc := 21) (dq D_m_fraction_0_ok 12 rfl) ?_
  exact r_retl (pc := 22) (dq D_m_fraction_0_ok 13 rfl) rfl
noncomputable def f_m_fraction (v0 : Nat) (v1 : Int64) (v3 : Int64) (v5 : Int32) (h : Hp) : Option (Int64 × Hp) := gd (hS h v0 = some (.inl 11)) (bd (f_m_good v0 (0 : Int32) h) fun r2 h1 => if v5 = 0 then (b_m_fraction_16 v1 v3 v1 h1) else (b_m_fraction_16 v1 v3 v3 h1))
set_option maxHeartbeats 4000000 in
set_option maxRecDepth 20000 in
theorem t_m_fraction {G : GG} (v0 : Nat) (v1 : Int64) (v3 : Int64) (v5 : Int32) (h : Hp) : Mt G M_m_fraction 1 [.ref v0, .long v1, .long v3, .int v5] cL h (f_m_fraction v0 v1 v3 v5 h) := by
  refine Mt.ofF (by decide +kernel) rfl (Rt.l rfl rfl) ?_
  show T G M_m_fraction 1 cL 0 [(0, .ref v0), (1, .long v1), (3, .long v3), (5, .int v5)] [] h _
  unfold f_m_fraction
  refine q_aload_n (pc := 0) (dq D_m_fraction_0_ok 0 rfl) rfl 0 rfl ?_
  refine q_ic0 (pc := 1) (dq D_m_fraction_0_ok 1 rfl) ?_
  refine r_invI (Mc := M_m_good) (pc := 2) (ci := 11) (rest := []) 0 1 [.int 0] (dq D_m_fraction_0_ok 2 rfl) rfl rfl lc_m_good lv_m_good_ ml_m_64 rfl rfl rfl rfl (t_m_good v0 (0 : Int32) h) (fun r2 h1 => ?_)
  refine q_pop (pc := 5) (dq D_m_fraction_0_ok 3 rfl) rfl ?_
  refine q_iload (pc := 6) (dq D_m_fraction_0_ok 4 rfl) 3 rfl ?_
  refine p_if_eq (pc := 8) 15 (dq D_m_fraction_0_ok 5 rfl) rfl ?_ ?_
  · refine q_lload_n (pc := 15) (dq D_m_fraction_0_ok 8 rfl) rfl 1 rfl ?_
    exact T.lsub [1, 2] rfl (tb_m_fraction_16 v1 v3 v1 h1)
  · refine q_lload_n (pc := 11) (dq D_m_fraction_0_ok 6 rfl) rfl 2 rfl ?_
    refine q_goto (pc := 12) 16 (dq D_m_fraction_0_ok 7 rfl) rfl ?_
    exact T.lsub [1, 2] rfl (tb_m_fraction_16 v1 v3 v3 h1)
noncomputable def f_m_byteAt (v0 : Nat) (v1 : Int32) (h : Hp) : Option (Int32 × Hp) := gd (hS h v0 = some (.inl 11)) (lt (hI h v0 7) fun x1 => if x1 ≤ v1 then (some ((-1), h)) else (gd (hS h v0 = some (.inl 11)) (bR (hR h v0 5) fun x2 => gd (ai h x2 2 v1) (lt (hI h x2 v1.toNatClampNeg) fun x3 => some (x3 &&& 255, h)))))
set_option maxHeartbeats 4000000 in
set_option maxRecDepth 20000 in
theorem t_m_byteAt {G : GG} (v0 : Nat) (v1 : Int32) (h : Hp) : Mt G M_m_byteAt 0 [.ref v0, .int v1] cI h (f_m_byteAt v0 v1 h) := by
  refine Mt.ofF (by decide +kernel) rfl (Rt.i rfl rfl) ?_
  show T G M_m_byteAt 0 cI 0 [(0, .ref v0), (1, .int v1)] [] h _
  unfold f_m_byteAt
  refine q_iload_n (pc := 0) (dq D_m_byteAt_0_ok 0 rfl) rfl 1 rfl ?_
  refine q_aload_n (pc := 1) (dq D_m_byteAt_0_ok 1 rfl) rfl 0 rfl ?_
  refine r_getI (pc := 2) (dq D_m_byteAt_0_ok 2 rfl) fa_m_71 rfl (fun x1 => ?_)
  refine q_ic_ge (pc := 5) 21 (dq D_m_byteAt_0_ok 3 rfl) rfl ?_ ?_
  · refine q_icm1 (pc := 21) (dq D_m_byteAt_0_ok 11 rfl) ?_
    exact r_reti (pc := 22) (dq D_m_byteAt_0_ok 12 rfl) rfl
  · refine q_aload_n (pc := 8) (dq D_m_byteAt_0_ok 4 rfl) rfl 0 rfl ?_
    refine q_getR (pc := 9) (dq D_m_byteAt_0_ok 5 rfl) fa_m_13 rfl (fun x2 => ?_)
    refine q_iload_n (pc := 12) (dq D_m_byteAt_0_ok 6 rfl) rfl 1 rfl ?_
    refine r_bald (pc := 13) (dq D_m_byteAt_0_ok 7 rfl) (fun x3 => ?_)
    refine q_sipush (pc := 14) (v := 255) (dq D_m_byteAt_0_ok 8 rfl) (by decide) ?_
    refine q_iand (pc := 17) (dq D_m_byteAt_0_ok 9 rfl) ?_
    refine q_goto (pc := 18) 22 (dq D_m_byteAt_0_ok 10 rfl) rfl ?_
    exact r_reti (pc := 22) (dq D_m_byteAt_0_ok 12 rfl) rfl
noncomputable def f_m_isLetter (v0 : Int32) (h : Hp) : Option (Int32 × Hp) := if v0 < 97 then (gd (zb 0) (some (0, h))) else (if 122 < v0 then (gd (zb 0) (some (0, h))) else (gd (zb 1) (some (1, h))))
set_option maxHeartbeats 4000000 in
set_option maxRecDepth 20000 in
theorem t_m_isLetter {G : GG} (v0 : Int32) (h : Hp) : Mt G M_m_isLetter 0 [.int v0] cI h (f_m_isLetter v0 h) := by
  refine Mt.ofF (by decide +kernel) rfl (Rt.z rfl rfl) ?_
  show T G M_m_isLetter 0 cI 0 [(0, .int v0)] [] h _
  unfold f_m_isLetter
  refine q_iload_n (pc := 0) (dq D_m_isLetter_0_ok 0 rfl) rfl 0 rfl ?_
  refine q_bipush (pc := 1) (v := 97) (dq D_m_isLetter_0_ok 1 rfl) (by decide) ?_
  refine q_ic_lt (pc := 3) 16 (dq D_m_isLetter_0_ok 2 rfl) rfl ?_ ?_
  · refine q_ic0 (pc := 16) (dq D_m_isLetter_0_ok 8 rfl) ?_
    exact r_retz (pc := 17) (dq D_m_isLetter_0_ok 9 rfl) rfl
  · refine q_iload_n (pc := 6) (dq D_m_isLetter_0_ok 3 rfl) rfl 0 rfl ?_
    refine q_bipush (pc := 7) (v := 122) (dq D_m_isLetter_0_ok 4 rfl) (by decide) ?_
    refine q_ic_gt (pc := 9) 16 (dq D_m_isLetter_0_ok 5 rfl) rfl ?_ ?_
    · refine q_ic0 (pc := 16) (dq D_m_isLetter_0_ok 8 rfl) ?_
      exact r_retz (pc := 17) (dq D_m_isLetter_0_ok 9 rfl) rfl
    · refine q_ic1 (pc := 12) (dq D_m_isLetter_0_ok 6 rfl) ?_
      refine q_goto (pc := 13) 17 (dq D_m_isLetter_0_ok 7 rfl) rfl ?_
      exact r_retz (pc := 17) (dq D_m_isLetter_0_ok 9 rfl) rfl
noncomputable def f_m_isDigit (v0 : Int32) (h : Hp) : Option (Int32 × Hp) := if v0 < 48 then (gd (zb 0) (some (0, h))) else (if 57 < v0 then (gd (zb 0) (some (0, h))) else (gd (zb 1) (some (1, h))))
set_option maxHeartbeats 4000000 in
set_option maxRecDepth 20000 in
theorem t_m_isDigit {G : GG} (v0 : Int32) (h : Hp) : Mt G M_m_isDigit 0 [.int v0] cI h (f_m_isDigit v0 h) := by
  refine Mt.ofF (by decide +kernel) rfl (Rt.z rfl rfl) ?_
  show T G M_m_isDigit 0 cI 0 [(0, .int v0)] [] h _
  unfold f_m_isDigit
  refine q_iload_n (pc := 0) (dq D_m_isDigit_0_ok 0 rfl) rfl 0 rfl ?_
  refine q_bipush (pc := 1) (v := 48) (dq D_m_isDigit_0_ok 1 rfl) (by decide) ?_
  refine q_ic_lt (pc := 3) 16 (dq D_m_isDigit_0_ok 2 rfl) rfl ?_ ?_
  · refine q_ic0 (pc := 16) (dq D_m_isDigit_0_ok 8 rfl) ?_
    exact r_retz (pc := 17) (dq D_m_isDigit_0_ok 9 rfl) rfl
  · refine q_iload_n (pc := 6) (dq D_m_isDigit_0_ok 3 rfl) rfl 0 rfl ?_
    refine q_bipush (pc := 7) (v := 57) (dq D_m_isDigit_0_ok 4 rfl) (by decide) ?_
    refine q_ic_gt (pc := 9) 16 (dq D_m_isDigit_0_ok 5 rfl) rfl ?_ ?_
    · refine q_ic0 (pc := 16) (dq D_m_isDigit_0_ok 8 rfl) ?_
      exact r_retz (pc := 17) (dq D_m_isDigit_0_ok 9 rfl) rfl
    · refine q_ic1 (pc := 12) (dq D_m_isDigit_0_ok 6 rfl) ?_
      refine q_goto (pc := 13) 17 (dq D_m_isDigit_0_ok 7 rfl) rfl ?_
      exact r_retz (pc := 17) (dq D_m_isDigit_0_ok 9 rfl) rfl
noncomputable def b_m_goesOn_269 (v0 : Nat) (s0 : Int32) (s1 : Nat) (h : Hp) : Option (Unit × Hp) := gd (hS h s1 = some (.inl 11)) (lt (uI h s1 9 s0) fun h1 => gd (hS h1 v0 = some (.inl 11)) (lt (hI h1 v0 8) fun x2 => gd (hS h1 v0 = some (.inl 11)) (lt (uI h1 v0 8 (x2 + 1)) fun h3 => some ((), h3))))
set_option maxHeartbeats 4000000 in
set_option maxRecDepth 20000 in
theorem tb_m_goesOn_269 {G : GG} (v0 : Nat) (s0 : Int32) (s1 : Nat) (h : Hp) : T G M_m_goesOn 1 cU 269 [(0, .ref v0)] [.int s0, .ref s1] h (b_m_goesOn_269 v0 s0 s1 h) := by
  unfold b_m_goesOn_269
  refine r_putI (pc := 269) (dq D_m_goesOn_2_ok 21 rfl) fp_m_86 rfl rfl (fun h1 => ?_)
  refine q_aload_n (pc := 272) (dq D_m_goesOn_2_ok 22 rfl) rfl 0 rfl ?_
  refine q_dup (pc := 273) (dq D_m_goesOn_2_ok 23 rfl) rfl ?_
  refine r_getI (pc := 274) (dq D_m_goesOn_2_ok 24 rfl) fa_m_89 rfl (fun x2 => ?_)
  refine q_ic1 (pc := 277) (dq D_m_goesOn_2_ok 25 rfl) ?_
  refine q_iadd (pc := 278) (dq D_m_goesOn_2_ok 26 rfl) ?_
  refine r_putI (pc := 279) (dq D_m_goesOn_2_ok 27 rfl) fp_m_89 rfl rfl (fun h3 => ?_)
  exact r_retu (pc := 282) (dq D_m_goesOn_2_ok 28 rfl) rfl
noncomputable def b_m_goesOn_257 (v0 : Nat) (v1 : Int32) (h : Hp) : Option (Unit × Hp) := if v1 = 59 then (b_m_goesOn_269 v0 4 v0 h) else (b_m_goesOn_269 v0 5 v0 h)
set_option maxHeartbeats 4000000 in
set_option maxRecDepth 20000 in
theorem tb_m_goesOn_257 {G : GG} (v0 : Nat) (v1 : Int32) (h : Hp) : T G M_m_goesOn 1 cU 257 [(0, .ref v0), (1, .int v1)] [] h (b_m_goesOn_257 v0 v1 h) := by
  unfold b_m_goesOn_257
  refine q_aload_n (pc := 257) (dq D_m_goesOn_2_ok 14 rfl) rfl 0 rfl ?_
  refine q_iload_n (pc := 258) (dq D_m_goesOn_2_ok 15 rfl) rfl 1 rfl ?_
  refine q_bipush (pc := 259) (v := 59) (dq D_m_goesOn_2_ok 16 rfl) (by decide) ?_
  refine q_ic_ne (pc := 261) 268 (dq D_m_goesOn_2_ok 17 rfl) rfl ?_ ?_
  · refine q_ic5 (pc := 268) (dq D_m_goesOn_2_ok 20 rfl) ?_
    exact T.lsub [0] rfl (tb_m_goesOn_269 v0 5 v0 h)
  · refine q_ic4 (pc := 264) (dq D_m_goesOn_2_ok 18 rfl) ?_
    refine q_goto (pc := 265) 269 (dq D_m_goesOn_2_ok 19 rfl) rfl ?_
    exact T.lsub [0] rfl (tb_m_goesOn_269 v0 4 v0 h)
noncomputable def b_m_goesOn_216 (k174 : (Nat × Int32) → Hp → Option (Unit × Hp)) (v0 : Nat) (v2 : Int32) (h : Hp) : Option (Unit × Hp) := gd (hS h v0 = some (.inl 11)) (lt (hI h v0 8) fun x1 => gd (hS h v0 = some (.inl 11)) (lt (uI h v0 8 (x1 + 1)) fun h2 => k174 (v0, v2 + 1) h2))
set_option maxHeartbeats 4000000 in
set_option maxRecDepth 20000 in
theorem tb_m_goesOn_216 {G : GG} {k174 : (Nat × Int32) → Hp → Option (Unit × Hp)} (hk174 : ∀ s h, T G M_m_goesOn 1 cU 174 [(0, .ref s.1), (2, .int s.2)] [] h (k174 s h)) (v0 : Nat) (v2 : Int32) (h : Hp) : T G M_m_goesOn 1 cU 216 [(0, .ref v0), (2, .int v2)] [] h (b_m_goesOn_216 k174 v0 v2 h) := by
  unfold b_m_goesOn_216
  refine q_iinc (pc := 216) (v := (1)) (ls' := [(2, .int (v2 + 1)), (0, .ref v0)]) (dq D_m_goesOn_1_ok 53 rfl) 1 rfl (by decide) rfl rfl ?_
  refine q_aload_n (pc := 219) (dq D_m_goesOn_1_ok 54 rfl) rfl 1 rfl ?_
  refine q_dup (pc := 220) (dq D_m_goesOn_1_ok 55 rfl) rfl ?_
  refine r_getI (pc := 221) (dq D_m_goesOn_1_ok 56 rfl) fa_m_89 rfl (fun x1 => ?_)
  refine q_ic1 (pc := 224) (dq D_m_goesOn_1_ok 57 rfl) ?_
  refine q_iadd (pc := 225) (dq D_m_goesOn_1_ok 58 rfl) ?_
  refine r_putI (pc := 226) (dq D_m_goesOn_1_ok 59 rfl) fp_m_89 rfl rfl (fun h2 => ?_)
  refine q_goto (pc := 229) 174 (dq D_m_goesOn_2_ok 0 rfl) rfl ?_
  exact T.lsub [1, 0] rfl (hk174 (v0, v2 + 1) h2)
noncomputable def b_m_goesOn_174 (k174 : (Nat × Int32) → Hp → Option (Unit × Hp)) (v0 : Nat) (v2 : Int32) (h : Hp) : Option (Unit × Hp) := gd (hS h v0 = some (.inl 11)) (lt (hI h v0 8) fun x1 => gd (hS h v0 = some (.inl 11)) (bd (f_m_byteAt v0 x1 h) fun r3 h2 => bd (f_m_isDigit r3 h2) fun r5 h4 => if r5 = 0 then (if 3 < v2 then (some ((), h4)) else (gd (hS h4 v0 = some (.inl 11)) (lt (uI h4 v0 9 3) fun h6 => some ((), h6)))) else (if 3 ≤ v2 then (b_m_goesOn_216 k174 v0 v2 h4) else (gd (hS h4 v0 = some (.inl 11)) (lt (hI h4 v0 11) fun x7 => gd (hS h4 v0 = some (.inl 11)) (lt (hI h4 v0 8) fun x8 => gd (hS h4 v0 = some (.inl 11)) (bd (f_m_byteAt v0 x8 h4) fun r10 h9 => gd (hS h9 v0 = some (.inl 11)) (lt (uI h9 v0 11 (((10 * x7) + r10) - 48)) fun h11 => b_m_goesOn_216 k174 v0 v2 h11))))))))
set_option maxHeartbeats 4000000 in
set_option maxRecDepth 20000 in
theorem tb_m_goesOn_174 {G : GG} {k174 : (Nat × Int32) → Hp → Option (Unit × Hp)} (hk174 : ∀ s h, T G M_m_goesOn 1 cU 174 [(0, .ref s.1), (2, .int s.2)] [] h (k174 s h)) (v0 : Nat) (v2 : Int32) (h : Hp) : T G M_m_goesOn 1 cU 174 [(0, .ref v0), (2, .int v2)] [] h (b_m_goesOn_174 k174 v0 v2 h) := by
  unfold b_m_goesOn_174
  refine q_aload_n (pc := 174) (dq D_m_goesOn_1_ok 31 rfl) rfl 0 rfl ?_
  refine q_aload_n (pc := 175) (dq D_m_goesOn_1_ok 32 rfl) rfl 0 rfl ?_
  refine r_getI (pc := 176) (dq D_m_goesOn_1_ok 33 rfl) fa_m_89 rfl (fun x1 => ?_)
  refine r_invI (Mc := M_m_byteAt) (pc := 179) (ci := 11) (rest := []) 0 1 [.int x1] (dq D_m_goesOn_1_ok 34 rfl) rfl rfl lc_m_byteAt lv_m_byteAt_ ml_m_92 rfl rfl rfl rfl (t_m_byteAt v0 x1 h) (fun r3 h2 => ?_)
  refine r_insI (Mc := M_m_isDigit) (pc := 182) (rest := []) 0 1 [.int r3] (dq D_m_goesOn_1_ok 35 rfl) lc_m_isDigit ls_m_isDigit ml_m_106 rfl rfl rfl rfl (t_m_isDigit r3 h2) (fun r5 h4 => ?_)
  refine p_if_eq (pc := 185) 232 (dq D_m_goesOn_1_ok 36 rfl) rfl ?_ ?_
  · refine q_iload_n (pc := 232) (dq D_m_goesOn_2_ok 1 rfl) rfl 1 rfl ?_
    refine q_ic3 (pc := 233) (dq D_m_goesOn_2_ok 2 rfl) ?_
    refine q_ic_gt (pc := 234) 282 (dq D_m_goesOn_2_ok 3 rfl) rfl ?_ ?_
    · exact r_retu (pc := 282) (dq D_m_goesOn_2_ok 28 rfl) rfl
    · refine q_aload_n (pc := 237) (dq D_m_goesOn_2_ok 4 rfl) rfl 0 rfl ?_
      refine q_ic3 (pc := 238) (dq D_m_goesOn_2_ok 5 rfl) ?_
      refine r_putI (pc := 239) (dq D_m_goesOn_2_ok 6 rfl) fp_m_86 rfl rfl (fun h6 => ?_)
      refine q_goto (pc := 242) 282 (dq D_m_goesOn_2_ok 7 rfl) rfl ?_
      exact r_retu (pc := 282) (dq D_m_goesOn_2_ok 28 rfl) rfl
  · refine q_iload_n (pc := 188) (dq D_m_goesOn_1_ok 37 rfl) rfl 1 rfl ?_
    refine q_ic3 (pc := 189) (dq D_m_goesOn_1_ok 38 rfl) ?_
    refine q_ic_ge (pc := 190) 216 (dq D_m_goesOn_1_ok 39 rfl) rfl ?_ ?_
    · exact T.lsub [0, 1] rfl (tb_m_goesOn_216 hk174 v0 v2 h4)
    · refine q_aload_n (pc := 193) (dq D_m_goesOn_1_ok 40 rfl) rfl 0 rfl ?_
      refine q_bipush (pc := 194) (v := 10) (dq D_m_goesOn_1_ok 41 rfl) (by decide) ?_
      refine q_aload_n (pc := 196) (dq D_m_goesOn_1_ok 42 rfl) rfl 0 rfl ?_
      refine r_getI (pc := 197) (dq D_m_goesOn_1_ok 43 rfl) fa_m_109 rfl (fun x7 => ?_)
      refine q_imul (pc := 200) (dq D_m_goesOn_1_ok 44 rfl) ?_
      refine q_aload_n (pc := 201) (dq D_m_goesOn_1_ok 45 rfl) rfl 0 rfl ?_
      refine q_aload_n (pc := 202) (dq D_m_goesOn_1_ok 46 rfl) rfl 0 rfl ?_
      refine r_getI (pc := 203) (dq D_m_goesOn_1_ok 47 rfl) fa_m_89 rfl (fun x8 => ?_)
      refine r_invI (Mc := M_m_byteAt) (pc := 206) (ci := 11) (rest := [.int (10 * x7), .ref v0]) 0 1 [.int x8] (dq D_m_goesOn_1_ok 48 rfl) rfl rfl lc_m_byteAt lv_m_byteAt_ ml_m_92 rfl rfl rfl rfl (t_m_byteAt v0 x8 h4) (fun r10 h9 => ?_)
      refine q_iadd (pc := 209) (dq D_m_goesOn_1_ok 49 rfl) ?_
      refine q_bipush (pc := 210) (v := 48) (dq D_m_goesOn_1_ok 50 rfl) (by decide) ?_
      refine q_isub (pc := 212) (dq D_m_goesOn_1_ok 51 rfl) ?_
      refine r_putI (pc := 213) (dq D_m_goesOn_1_ok 52 rfl) fp_m_109 rfl rfl (fun h11 => ?_)
      exact T.lsub [0, 1] rfl (tb_m_goesOn_216 hk174 v0 v2 h11)
noncomputable def l_m_goesOn_174 : Nat → (Nat × Int32) → Hp → Option (Unit × Hp) := lp (fun k174 s h => b_m_goesOn_174 k174 s.1 s.2 h)
set_option maxHeartbeats 4000000 in
set_option maxRecDepth 20000 in
theorem tl_m_goesOn_174 {G : GG} (n : Nat) (s : Nat × Int32) (h : Hp) : T G M_m_goesOn 1 cU 174 [(0, .ref s.1), (2, .int s.2)] [] h (l_m_goesOn_174 n s h) :=
  T.loop (lsOf := fun s => [(0, .ref s.1), (2, .int s.2)]) (fun k174 hk174 s h => tb_m_goesOn_174 hk174 s.1 s.2 h) n s h
noncomputable def b_m_goesOn_132 (k85 : (Nat × Int32) → Hp → Option (Unit × Hp)) (v0 : Nat) (v2 : Int32) (h : Hp) : Option (Unit × Hp) := gd (hS h v0 = some (.inl 11)) (lt (hI h v0 8) fun x1 => gd (hS h v0 = some (.inl 11)) (lt (uI h v0 8 (x1 + 1)) fun h2 => k85 (v0, v2 + 1) h2))
set_option maxHeartbeats 4000000 in
set_option maxRecDepth 20000 in
theorem tb_m_goesOn_132 {G : GG} {k85 : (Nat × Int32) → Hp → Option (Unit × Hp)} (hk85 : ∀ s h, T G M_m_goesOn 1 cU 85 [(0, .ref s.1), (2, .int s.2)] [] h (k85 s h)) (v0 : Nat) (v2 : Int32) (h : Hp) : T G M_m_goesOn 1 cU 132 [(0, .ref v0), (2, .int v2)] [] h (b_m_goesOn_132 k85 v0 v2 h) := by
  unfold b_m_goesOn_132
  refine q_iinc (pc := 132) (v := (1)) (ls' := [(2, .int (v2 + 1)), (0, .ref v0)]) (dq D_m_goesOn_1_ok 10 rfl) 1 rfl (by decide) rfl rfl ?_
  refine q_aload_n (pc := 135) (dq D_m_goesOn_1_ok 11 rfl) rfl 1 rfl ?_
  refine q_dup (pc := 136) (dq D_m_goesOn_1_ok 12 rfl) rfl ?_
  refine r_getI (pc := 137) (dq D_m_goesOn_1_ok 13 rfl) fa_m_89 rfl (fun x1 => ?_)
  refine q_ic1 (pc := 140) (dq D_m_goesOn_1_ok 14 rfl) ?_
  refine q_iadd (pc := 141) (dq D_m_goesOn_1_ok 15 rfl) ?_
  refine r_putI (pc := 142) (dq D_m_goesOn_1_ok 16 rfl) fp_m_89 rfl rfl (fun h2 => ?_)
  refine q_goto (pc := 145) 85 (dq D_m_goesOn_1_ok 17 rfl) rfl ?_
  exact T.lsub [1, 0] rfl (hk85 (v0, v2 + 1) h2)
noncomputable def b_m_goesOn_85 (k85 : (Nat × Int32) → Hp → Option (Unit × Hp)) (v0 : Nat) (v2 : Int32) (h : Hp) : Option (Unit × Hp) := gd (hS h v0 = some (.inl 11)) (lt (hI h v0 8) fun x1 => gd (hS h v0 = some (.inl 11)) (bd (f_m_byteAt v0 x1 h) fun r3 h2 => bd (f_m_isLetter r3 h2) fun r5 h4 => if r5 = 0 then (if 8 < v2 then (some ((), h4)) else (gd (hS h4 v0 = some (.inl 11)) (lt (uI h4 v0 9 2) fun h6 => some ((), h6)))) else (if 8 ≤ v2 then (b_m_goesOn_132 k85 v0 v2 h4) else (gd (hS h4 v0 = some (.inl 11)) (lt (hL h4 v0 14) fun x7 => gd (hS h4 v0 = some (.inl 11)) (lt (hI h4 v0 8) fun x8 => gd (hS h4 v0 = some (.inl 11)) (bd (f_m_byteAt v0 x8 h4) fun r10 h9 => gd (hS h9 v0 = some (.inl 11)) (lt (uL h9 v0 14 ((32 * x7) + (((r10 - 97) + 1).toInt64))) fun h11 => b_m_goesOn_132 k85 v0 v2 h11))))))))
set_option maxHeartbeats 4000000 in
set_option maxRecDepth 20000 in
theorem tb_m_goesOn_85 {G : GG} {k85 : (Nat × Int32) → Hp → Option (Unit × Hp)} (hk85 : ∀ s h, T G M_m_goesOn 1 cU 85 [(0, .ref s.1), (2, .int s.2)] [] h (k85 s h)) (v0 : Nat) (v2 : Int32) (h : Hp) : T G M_m_goesOn 1 cU 85 [(0, .ref v0), (2, .int v2)] [] h (b_m_goesOn_85 k85 v0 v2 h) := by
  unfold b_m_goesOn_85
  refine q_aload_n (pc := 85) (dq D_m_goesOn_0_ok 45 rfl) rfl 0 rfl ?_
  refine q_aload_n (pc := 86) (dq D_m_goesOn_0_ok 46 rfl) rfl 0 rfl ?_
  refine r_getI (pc := 87) (dq D_m_goesOn_0_ok 47 rfl) fa_m_89 rfl (fun x1 => ?_)
  refine r_invI (Mc := M_m_byteAt) (pc := 90) (ci := 11) (rest := []) 0 1 [.int x1] (dq D_m_goesOn_0_ok 48 rfl) rfl rfl lc_m_byteAt lv_m_byteAt_ ml_m_92 rfl rfl rfl rfl (t_m_byteAt v0 x1 h) (fun r3 h2 => ?_)
  refine r_insI (Mc := M_m_isLetter) (pc := 93) (rest := []) 0 1 [.int r3] (dq D_m_goesOn_0_ok 49 rfl) lc_m_isLetter ls_m_isLetter ml_m_98 rfl rfl rfl rfl (t_m_isLetter r3 h2) (fun r5 h4 => ?_)
  refine p_if_eq (pc := 96) 148 (dq D_m_goesOn_0_ok 50 rfl) rfl ?_ ?_
  · refine q_iload_n (pc := 148) (dq D_m_goesOn_1_ok 18 rfl) rfl 1 rfl ?_
    refine q_bipush (pc := 149) (v := 8) (dq D_m_goesOn_1_ok 19 rfl) (by decide) ?_
    refine q_ic_gt (pc := 151) 282 (dq D_m_goesOn_1_ok 20 rfl) rfl ?_ ?_
    · exact r_retu (pc := 282) (dq D_m_goesOn_2_ok 28 rfl) rfl
    · refine q_aload_n (pc := 154) (dq D_m_goesOn_1_ok 21 rfl) rfl 0 rfl ?_
      refine q_ic2 (pc := 155) (dq D_m_goesOn_1_ok 22 rfl) ?_
      refine r_putI (pc := 156) (dq D_m_goesOn_1_ok 23 rfl) fp_m_86 rfl rfl (fun h6 => ?_)
      refine q_goto (pc := 159) 282 (dq D_m_goesOn_1_ok 24 rfl) rfl ?_
      exact r_retu (pc := 282) (dq D_m_goesOn_2_ok 28 rfl) rfl
  · refine q_iload_n (pc := 99) (dq D_m_goesOn_0_ok 51 rfl) rfl 1 rfl ?_
    refine q_bipush (pc := 100) (v := 8) (dq D_m_goesOn_0_ok 52 rfl) (by decide) ?_
    refine q_ic_ge (pc := 102) 132 (dq D_m_goesOn_0_ok 53 rfl) rfl ?_ ?_
    · exact T.lsub [0, 1] rfl (tb_m_goesOn_132 hk85 v0 v2 h4)
    · refine q_aload_n (pc := 105) (dq D_m_goesOn_0_ok 54 rfl) rfl 0 rfl ?_
      refine q_ldc2 (pc := 106) (v := 32) (dq D_m_goesOn_0_ok 55 rfl) lk_m_80 ?_
      refine q_aload_n (pc := 109) (dq D_m_goesOn_0_ok 56 rfl) rfl 0 rfl ?_
      refine r_getL (pc := 110) (dq D_m_goesOn_0_ok 57 rfl) fa_m_102 rfl (fun x7 => ?_)
      refine q_lmul (pc := 113) (dq D_m_goesOn_0_ok 58 rfl) ?_
      refine q_aload_n (pc := 114) (dq D_m_goesOn_0_ok 59 rfl) rfl 0 rfl ?_
      refine q_aload_n (pc := 115) (dq D_m_goesOn_1_ok 0 rfl) rfl 0 rfl ?_
      refine r_getI (pc := 116) (dq D_m_goesOn_1_ok 1 rfl) fa_m_89 rfl (fun x8 => ?_)
      refine r_invI (Mc := M_m_byteAt) (pc := 119) (ci := 11) (rest := [.long (32 * x7), .ref v0]) 0 1 [.int x8] (dq D_m_goesOn_1_ok 2 rfl) rfl rfl lc_m_byteAt lv_m_byteAt_ ml_m_92 rfl rfl rfl rfl (t_m_byteAt v0 x8 h4) (fun r10 h9 => ?_)
      refine q_bipush (pc := 122) (v := 97) (dq D_m_goesOn_1_ok 3 rfl) (by decide) ?_
      refine q_isub (pc := 124) (dq D_m_goesOn_1_ok 4 rfl) ?_
      refine q_ic1 (pc := 125) (dq D_m_goesOn_1_ok 5 rfl) ?_
      refine q_iadd (pc := 126) (dq D_m_goesOn_1_ok 6 rfl) ?_
      refine q_i2l (pc := 127) (dq D_m_goesOn_1_ok 7 rfl) ?_
      refine q_ladd (pc := 128) (dq D_m_goesOn_1_ok 8 rfl) ?_
      refine r_putL (pc := 129) (dq D_m_goesOn_1_ok 9 rfl) fp_m_102 rfl rfl (fun h11 => ?_)
      exact T.lsub [0, 1] rfl (tb_m_goesOn_132 hk85 v0 v2 h11)
noncomputable def l_m_goesOn_85 : Nat → (Nat × Int32) → Hp → Option (Unit × Hp) := lp (fun k85 s h => b_m_goesOn_85 k85 s.1 s.2 h)
set_option maxHeartbeats 4000000 in
set_option maxRecDepth 20000 in
theorem tl_m_goesOn_85 {G : GG} (n : Nat) (s : Nat × Int32) (h : Hp) : T G M_m_goesOn 1 cU 85 [(0, .ref s.1), (2, .int s.2)] [] h (l_m_goesOn_85 n s h) :=
  T.loop (lsOf := fun s => [(0, .ref s.1), (2, .int s.2)]) (fun k85 hk85 s h => tb_m_goesOn_85 hk85 s.1 s.2 h) n s h
noncomputable def b_m_goesOn_10 (k10 : Nat → Hp → Option (Unit × Hp)) (v0 : Nat) (h : Hp) : Option (Unit × Hp) := gd (hS h v0 = some (.inl 11)) (lt (hI h v0 8) fun x1 => gd (hS h v0 = some (.inl 11)) (bd (f_m_byteAt v0 x1 h) fun r3 h2 => if r3 = 32 then (gd (hS h2 v0 = some (.inl 11)) (lt (hI h2 v0 8) fun x18 => gd (hS h2 v0 = some (.inl 11)) (lt (uI h2 v0 8 (x18 + 1)) fun h19 => k10 v0 h19))) else (gd (hS h2 v0 = some (.inl 11)) (lt (hI h2 v0 8) fun x4 => gd (hS h2 v0 = some (.inl 11)) (lt (uI h2 v0 10 x4) fun h5 => gd (hS h5 v0 = some (.inl 11)) (lt (uI h5 v0 9 0) fun h6 => gd (hS h6 v0 = some (.inl 11)) (lt (hI h6 v0 8) fun x7 => gd (hS h6 v0 = some (.inl 11)) (bd (f_m_byteAt v0 x7 h6) fun r9 h8 => lt (0 : Int32) fun y10 => if r9 = ((-1)) then (gd (hS h8 v0 = some (.inl 11)) (lt (uI h8 v0 9 1) fun h17 => some ((), h17))) else (bd (f_m_isLetter r9 h8) fun r12 h11 => if r12 = 0 then (bd (f_m_isDigit r9 h11) fun r14 h13 => if r14 = 0 then (if r9 = 59 then (b_m_goesOn_257 v0 r9 h13) else (if r9 = 44 then (b_m_goesOn_257 v0 r9 h13) else (some ((), h13)))) else (gd (hS h13 v0 = some (.inl 11)) (lt (uI h13 v0 11 0) fun h15 => l_m_goesOn_174 FU (v0, y10) h15))) else (gd (hS h11 v0 = some (.inl 11)) (lt (uL h11 v0 14 0) fun h16 => l_m_goesOn_85 FU (v0, y10) h16)))))))))))
set_option maxHeartbeats 4000000 in
set_option maxRecDepth 20000 in
theorem tb_m_goesOn_10 {G : GG} {k10 : Nat → Hp → Option (Unit × Hp)} (hk10 : ∀ s h, T G M_m_goesOn 1 cU 10 [(0, .ref s)] [] h (k10 s h)) (v0 : Nat) (h : Hp) : T G M_m_goesOn 1 cU 10 [(0, .ref v0)] [] h (b_m_goesOn_10 k10 v0 h) := by
  unfold b_m_goesOn_10
  refine q_aload_n (pc := 10) (dq D_m_goesOn_0_ok 5 rfl) rfl 0 rfl ?_
  refine q_aload_n (pc := 11) (dq D_m_goesOn_0_ok 6 rfl) rfl 0 rfl ?_
  refine r_getI (pc := 12) (dq D_m_goesOn_0_ok 7 rfl) fa_m_89 rfl (fun x1 => ?_)
  refine r_invI (Mc := M_m_byteAt) (pc := 15) (ci := 11) (rest := []) 0 1 [.int x1] (dq D_m_goesOn_0_ok 8 rfl) rfl rfl lc_m_byteAt lv_m_byteAt_ ml_m_92 rfl rfl rfl rfl (t_m_byteAt v0 x1 h) (fun r3 h2 => ?_)
  refine q_bipush (pc := 18) (v := 32) (dq D_m_goesOn_0_ok 9 rfl) (by decide) ?_
  refine q_ic_ne (pc := 20) 36 (dq D_m_goesOn_0_ok 10 rfl) rfl ?_ ?_
  · refine q_aload_n (pc := 36) (dq D_m_goesOn_0_ok 18 rfl) rfl 0 rfl ?_
    refine q_aload_n (pc := 37) (dq D_m_goesOn_0_ok 19 rfl) rfl 0 rfl ?_
    refine r_getI (pc := 38) (dq D_m_goesOn_0_ok 20 rfl) fa_m_89 rfl (fun x4 => ?_)
    refine r_putI (pc := 41) (dq D_m_goesOn_0_ok 21 rfl) fp_m_95 rfl rfl (fun h5 => ?_)
    refine q_aload_n (pc := 44) (dq D_m_goesOn_0_ok 22 rfl) rfl 0 rfl ?_
    refine q_ic0 (pc := 45) (dq D_m_goesOn_0_ok 23 rfl) ?_
    refine r_putI (pc := 46) (dq D_m_goesOn_0_ok 24 rfl) fp_m_86 rfl rfl (fun h6 => ?_)
    refine q_aload_n (pc := 49) (dq D_m_goesOn_0_ok 25 rfl) rfl 0 rfl ?_
    refine q_aload_n (pc := 50) (dq D_m_goesOn_0_ok 26 rfl) rfl 0 rfl ?_
    refine r_getI (pc := 51) (dq D_m_goesOn_0_ok 27 rfl) fa_m_89 rfl (fun x7 => ?_)
    refine r_invI (Mc := M_m_byteAt) (pc := 54) (ci := 11) (rest := []) 0 1 [.int x7] (dq D_m_goesOn_0_ok 28 rfl) rfl rfl lc_m_byteAt lv_m_byteAt_ ml_m_92 rfl rfl rfl rfl (t_m_byteAt v0 x7 h6) (fun r9 h8 => ?_)
    refine q_istore_n (pc := 57) (ls' := [(1, .int r9), (0, .ref v0)]) (dq D_m_goesOn_0_ok 29 rfl) rfl rfl rfl ?_
    refine q_ic0 (pc := 58) (dq D_m_goesOn_0_ok 30 rfl) ?_
    refine r_nmI (fun y10 => ?_)
    refine q_istore_n (pc := 59) (ls' := [(2, .int y10), (1, .int r9), (0, .ref v0)]) (dq D_m_goesOn_0_ok 31 rfl) rfl rfl rfl ?_
    refine q_iload_n (pc := 60) (dq D_m_goesOn_0_ok 32 rfl) rfl 1 rfl ?_
    refine q_icm1 (pc := 61) (dq D_m_goesOn_0_ok 33 rfl) ?_
    refine q_ic_ne (pc := 62) 73 (dq D_m_goesOn_0_ok 34 rfl) rfl ?_ ?_
    · refine q_iload_n (pc := 73) (dq D_m_goesOn_0_ok 39 rfl) rfl 1 rfl ?_
      refine r_insI (Mc := M_m_isLetter) (pc := 74) (rest := []) 0 1 [.int r9] (dq D_m_goesOn_0_ok 40 rfl) lc_m_isLetter ls_m_isLetter ml_m_98 rfl rfl rfl rfl (t_m_isLetter r9 h8) (fun r12 h11 => ?_)
      refine p_if_eq (pc := 77) 162 (dq D_m_goesOn_0_ok 41 rfl) rfl ?_ ?_
      · refine q_iload_n (pc := 162) (dq D_m_goesOn_1_ok 25 rfl) rfl 1 rfl ?_
        refine r_insI (Mc := M_m_isDigit) (pc := 163) (rest := []) 0 1 [.int r9] (dq D_m_goesOn_1_ok 26 rfl) lc_m_isDigit ls_m_isDigit ml_m_106 rfl rfl rfl rfl (t_m_isDigit r9 h11) (fun r14 h13 => ?_)
        refine p_if_eq (pc := 166) 245 (dq D_m_goesOn_1_ok 27 rfl) rfl ?_ ?_
        · refine q_iload_n (pc := 245) (dq D_m_goesOn_2_ok 8 rfl) rfl 1 rfl ?_
          refine q_bipush (pc := 246) (v := 59) (dq D_m_goesOn_2_ok 9 rfl) (by decide) ?_
          refine q_ic_eq (pc := 248) 257 (dq D_m_goesOn_2_ok 10 rfl) rfl ?_ ?_
          · exact T.lsub [2, 1] rfl (tb_m_goesOn_257 v0 r9 h13)
          · refine q_iload_n (pc := 251) (dq D_m_goesOn_2_ok 11 rfl) rfl 1 rfl ?_
            refine q_bipush (pc := 252) (v := 44) (dq D_m_goesOn_2_ok 12 rfl) (by decide) ?_
            refine q_ic_ne (pc := 254) 282 (dq D_m_goesOn_2_ok 13 rfl) rfl ?_ ?_
            · exact r_retu (pc := 282) (dq D_m_goesOn_2_ok 28 rfl) rfl
            · exact T.lsub [2, 1] rfl (tb_m_goesOn_257 v0 r9 h13)
        · refine q_aload_n (pc := 169) (dq D_m_goesOn_1_ok 28 rfl) rfl 2 rfl ?_
          refine q_ic0 (pc := 170) (dq D_m_goesOn_1_ok 29 rfl) ?_
          refine r_putI (pc := 171) (dq D_m_goesOn_1_ok 30 rfl) fp_m_109 rfl rfl (fun h15 => ?_)
          exact T.lsub [2, 0] rfl (tl_m_goesOn_174 FU (v0, y10) h15)
      · refine q_aload_n (pc := 80) (dq D_m_goesOn_0_ok 42 rfl) rfl 2 rfl ?_
        refine q_lconst (pc := 81) (v := 0) (dq D_m_goesOn_0_ok 43 rfl) (by decide) ?_
        refine r_putL (pc := 82) (dq D_m_goesOn_0_ok 44 rfl) fp_m_102 rfl rfl (fun h16 => ?_)
        exact T.lsub [2, 0] rfl (tl_m_goesOn_85 FU (v0, y10) h16)
    · refine q_aload_n (pc := 65) (dq D_m_goesOn_0_ok 35 rfl) rfl 2 rfl ?_
      refine q_ic1 (pc := 66) (dq D_m_goesOn_0_ok 36 rfl) ?_
      refine r_putI (pc := 67) (dq D_m_goesOn_0_ok 37 rfl) fp_m_86 rfl rfl (fun h17 => ?_)
      refine q_goto (pc := 70) 282 (dq D_m_goesOn_0_ok 38 rfl) rfl ?_
      exact r_retu (pc := 282) (dq D_m_goesOn_2_ok 28 rfl) rfl
  · refine q_aload_n (pc := 23) (dq D_m_goesOn_0_ok 11 rfl) rfl 0 rfl ?_
    refine q_dup (pc := 24) (dq D_m_goesOn_0_ok 12 rfl) rfl ?_
    refine r_getI (pc := 25) (dq D_m_goesOn_0_ok 13 rfl) fa_m_89 rfl (fun x18 => ?_)
    refine q_ic1 (pc := 28) (dq D_m_goesOn_0_ok 14 rfl) ?_
    refine q_iadd (pc := 29) (dq D_m_goesOn_0_ok 15 rfl) ?_
    refine r_putI (pc := 30) (dq D_m_goesOn_0_ok 16 rfl) fp_m_89 rfl rfl (fun h19 => ?_)
    refine q_goto (pc := 33) 10 (dq D_m_goesOn_0_ok 17 rfl) rfl ?_
    exact T.lsub [0] rfl (hk10 v0 h19)
noncomputable def l_m_goesOn_10 : Nat → Nat → Hp → Option (Unit × Hp) := lp (fun k10 s h => b_m_goesOn_10 k10 s h)
set_option maxHeartbeats 4000000 in
set_option maxRecDepth 20000 in
theorem tl_m_goesOn_10 {G : GG} (n : Nat) (s : Nat) (h : Hp) : T G M_m_goesOn 1 cU 10 [(0, .ref s)] [] h (l_m_goesOn_10 n s h) :=
  T.loop (lsOf := fun s => [(0, .ref s)]) (fun k10 hk10 s h => tb_m_goesOn_10 hk10 s h) n s h
noncomputable def f_m_goesOn (v0 : Nat) (h : Hp) : Option (Unit × Hp) := gd (hS h v0 = some (.inl 11)) (lt (hI h v0 9) fun x1 => if x1 = 6 then (some ((), h)) else (l_m_goesOn_10 FU v0 h))
set_option maxHeartbeats 4000000 in
set_option maxRecDepth 20000 in
theorem t_m_goesOn {G : GG} (v0 : Nat) (h : Hp) : Mt G M_m_goesOn 1 [.ref v0] cU h (f_m_goesOn v0 h) := by
  refine Mt.ofF (by decide +kernel) rfl (Rt.v rfl rfl) ?_
  show T G M_m_goesOn 1 cU 0 [(0, .ref v0)] [] h _
  unfold f_m_goesOn
  refine q_aload_n (pc := 0) (dq D_m_goesOn_0_ok 0 rfl) rfl 0 rfl ?_
  refine r_getI (pc := 1) (dq D_m_goesOn_0_ok 1 rfl) fa_m_86 rfl (fun x1 => ?_)
  refine q_bipush (pc := 4) (v := 6) (dq D_m_goesOn_0_ok 2 rfl) (by decide) ?_
  refine q_ic_ne (pc := 6) 10 (dq D_m_goesOn_0_ok 3 rfl) rfl ?_ ?_
  · exact T.lsub [0] rfl (tl_m_goesOn_10 FU v0 h)
  · exact r_retu (pc := 9) (dq D_m_goesOn_0_ok 4 rfl) rfl
noncomputable def f_m_flaw (v0 : Nat) (v1 : Int32) (h : Hp) : Option (Unit × Hp) := gd (hS h v0 = some (.inl 11)) (lt (hI h v0 9) fun x1 => if x1 = 6 then (some ((), h)) else (gd (hS h v0 = some (.inl 11)) (lt (uI h v0 12 v1) fun h2 => gd (hS h2 v0 = some (.inl 11)) (lt (hI h2 v0 10) fun x3 => gd (hS h2 v0 = some (.inl 11)) (lt (uI h2 v0 13 x3) fun h4 => gd (hS h4 v0 = some (.inl 11)) (lt (uI h4 v0 9 6) fun h5 => some ((), h5)))))))
set_option maxHeartbeats 4000000 in
set_option maxRecDepth 20000 in
theorem t_m_flaw {G : GG} (v0 : Nat) (v1 : Int32) (h : Hp) : Mt G M_m_flaw 0 [.ref v0, .int v1] cU h (f_m_flaw v0 v1 h) := by
  refine Mt.ofF (by decide +kernel) rfl (Rt.v rfl rfl) ?_
  show T G M_m_flaw 0 cU 0 [(0, .ref v0), (1, .int v1)] [] h _
  unfold f_m_flaw
  refine q_aload_n (pc := 0) (dq D_m_flaw_0_ok 0 rfl) rfl 0 rfl ?_
  refine r_getI (pc := 1) (dq D_m_flaw_0_ok 1 rfl) fa_m_86 rfl (fun x1 => ?_)
  refine q_bipush (pc := 4) (v := 6) (dq D_m_flaw_0_ok 2 rfl) (by decide) ?_
  refine q_ic_ne (pc := 6) 10 (dq D_m_flaw_0_ok 3 rfl) rfl ?_ ?_
  · refine q_aload_n (pc := 10) (dq D_m_flaw_0_ok 5 rfl) rfl 0 rfl ?_
    refine q_iload_n (pc := 11) (dq D_m_flaw_0_ok 6 rfl) rfl 1 rfl ?_
    refine r_putI (pc := 12) (dq D_m_flaw_0_ok 7 rfl) fp_m_112 rfl rfl (fun h2 => ?_)
    refine q_aload_n (pc := 15) (dq D_m_flaw_0_ok 8 rfl) rfl 0 rfl ?_
    refine q_aload_n (pc := 16) (dq D_m_flaw_0_ok 9 rfl) rfl 0 rfl ?_
    refine r_getI (pc := 17) (dq D_m_flaw_0_ok 10 rfl) fa_m_95 rfl (fun x3 => ?_)
    refine r_putI (pc := 20) (dq D_m_flaw_0_ok 11 rfl) fp_m_115 rfl rfl (fun h4 => ?_)
    refine q_aload_n (pc := 23) (dq D_m_flaw_0_ok 12 rfl) rfl 0 rfl ?_
    refine q_bipush (pc := 24) (v := 6) (dq D_m_flaw_0_ok 13 rfl) (by decide) ?_
    refine r_putI (pc := 26) (dq D_m_flaw_0_ok 14 rfl) fp_m_86 rfl rfl (fun h5 => ?_)
    exact r_retu (pc := 29) (dq D_m_flaw_0_ok 15 rfl) rfl
  · exact r_retu (pc := 9) (dq D_m_flaw_0_ok 4 rfl) rfl
noncomputable def f_m_isWord (v0 : Nat) (v1 : Nat) (h : Hp) : Option (Int32 × Hp) := gd (hS h v0 = some (.inl 11)) (lt (hI h v0 9) fun x1 => if x1 = 2 then (gd (hS h v0 = some (.inl 11)) (lt (hL h v0 14) fun x2 => bd (f_m_packed v1 h) fun r4 h3 => if (lg_cmp x2 r4) = 0 then (gd (zb 1) (some (1, h3))) else (gd (zb 0) (some (0, h3))))) else (gd (zb 0) (some (0, h))))
set_option maxHeartbeats 4000000 in
set_option maxRecDepth 20000 in
theorem t_m_isWord {G : GG} (v0 : Nat) (v1 : Nat) (h : Hp) : Mt G M_m_isWord 5 [.ref v0, .ref (gT G v1)] cI h (f_m_isWord v0 v1 h) := by
  refine Mt.ofF (by decide +kernel) rfl (Rt.z rfl rfl) ?_
  show T G M_m_isWord 5 cI 0 [(0, .ref v0), (1, .ref (gT G v1))] [] h _
  unfold f_m_isWord
  refine q_aload_n (pc := 0) (dq D_m_isWord_0_ok 0 rfl) rfl 0 rfl ?_
  refine r_getI (pc := 1) (dq D_m_isWord_0_ok 1 rfl) fa_m_86 rfl (fun x1 => ?_)
  refine q_ic2 (pc := 4) (dq D_m_isWord_0_ok 2 rfl) ?_
  refine q_ic_ne (pc := 5) 24 (dq D_m_isWord_0_ok 3 rfl) rfl ?_ ?_
  · refine q_ic0 (pc := 24) (dq D_m_isWord_0_ok 12 rfl) ?_
    exact r_retz (pc := 25) (dq D_m_isWord_0_ok 13 rfl) rfl
  · refine q_aload_n (pc := 8) (dq D_m_isWord_0_ok 4 rfl) rfl 0 rfl ?_
    refine r_getL (pc := 9) (dq D_m_isWord_0_ok 5 rfl) fa_m_102 rfl (fun x2 => ?_)
    refine q_aload_n (pc := 12) (dq D_m_isWord_0_ok 6 rfl) rfl 1 rfl ?_
    refine r_insL (Mc := M_m_packed) (pc := 13) (rest := [.long x2]) 4 1 [.ref (gT G v1)] (dq D_m_isWord_0_ok 7 rfl) lc_m_packed ls_m_packed ml_m_118 rfl rfl rfl rfl (t_m_packed v1 h) (fun r4 h3 => ?_)
    refine q_lcmp (pc := 16) (dq D_m_isWord_0_ok 8 rfl) ?_
    refine p_if_ne (pc := 17) 24 (dq D_m_isWord_0_ok 9 rfl) rfl ?_ ?_
    · refine q_ic0 (pc := 24) (dq D_m_isWord_0_ok 12 rfl) ?_
      exact r_retz (pc := 25) (dq D_m_isWord_0_ok 13 rfl) rfl
    · refine q_ic1 (pc := 20) (dq D_m_isWord_0_ok 10 rfl) ?_
      refine q_goto (pc := 21) 25 (dq D_m_isWord_0_ok 11 rfl) rfl ?_
      exact r_retz (pc := 25) (dq D_m_isWord_0_ok 13 rfl) rfl
noncomputable def b_m_eats_13 (v0 : Nat) (s0 : Int32) (h : Hp) : Option (Int32 × Hp) := if s0 = 0 then (gd (zb s0) (some (s0, h))) else (gd (hS h v0 = some (.inl 11)) (bd (f_m_goesOn v0 h) fun _ h1 => gd (zb s0) (some (s0, h1))))
set_option maxHeartbeats 4000000 in
set_option maxRecDepth 20000 in
theorem tb_m_eats_13 {G : GG} (v0 : Nat) (s0 : Int32) (h : Hp) : T G M_m_eats 2 cI 13 [(0, .ref v0)] [.int s0] h (b_m_eats_13 v0 s0 h) := by
  unfold b_m_eats_13
  refine q_istore_n (pc := 13) (ls' := [(2, .int s0), (0, .ref v0)]) (dq D_m_eats_0_ok 7 rfl) rfl rfl rfl ?_
  refine q_iload_n (pc := 14) (dq D_m_eats_0_ok 8 rfl) rfl 0 rfl ?_
  refine p_if_eq (pc := 15) 22 (dq D_m_eats_0_ok 9 rfl) rfl ?_ ?_
  · refine q_iload_n (pc := 22) (dq D_m_eats_0_ok 12 rfl) rfl 0 rfl ?_
    exact r_retz (pc := 23) (dq D_m_eats_0_ok 13 rfl) rfl
  · refine q_aload_n (pc := 18) (dq D_m_eats_0_ok 10 rfl) rfl 1 rfl ?_
    refine r_invU (Mc := M_m_goesOn) (pc := 19) (ci := 11) (rest := []) 1 0 [] (dq D_m_eats_0_ok 11 rfl) rfl rfl lc_m_goesOn lv_m_goesOn_ ml_m_122 rfl rfl rfl rfl (t_m_goesOn v0 h) (fun _ h1 => ?_)
    refine q_iload_n (pc := 22) (dq D_m_eats_0_ok 12 rfl) rfl 0 rfl ?_
    exact r_retz (pc := 23) (dq D_m_eats_0_ok 13 rfl) rfl
noncomputable def f_m_eats (v0 : Nat) (v1 : Int32) (h : Hp) : Option (Int32 × Hp) := gd (hS h v0 = some (.inl 11)) (lt (hI h v0 9) fun x1 => if x1 = v1 then (b_m_eats_13 v0 1 h) else (b_m_eats_13 v0 0 h))
set_option maxHeartbeats 4000000 in
set_option maxRecDepth 20000 in
theorem t_m_eats {G : GG} (v0 : Nat) (v1 : Int32) (h : Hp) : Mt G M_m_eats 2 [.ref v0, .int v1] cI h (f_m_eats v0 v1 h) := by
  refine Mt.ofF (by decide +kernel) rfl (Rt.z rfl rfl) ?_
  show T G M_m_eats 2 cI 0 [(0, .ref v0), (1, .int v1)] [] h _
  unfold f_m_eats
  refine q_aload_n (pc := 0) (dq D_m_eats_0_ok 0 rfl) rfl 0 rfl ?_
  refine r_getI (pc := 1) (dq D_m_eats_0_ok 1 rfl) fa_m_86 rfl (fun x1 => ?_)
  refine q_iload_n (pc := 4) (dq D_m_eats_0_ok 2 rfl) rfl 1 rfl ?_
  refine q_ic_ne (pc := 5) 12 (dq D_m_eats_0_ok 3 rfl) rfl ?_ ?_
  · refine q_ic0 (pc := 12) (dq D_m_eats_0_ok 6 rfl) ?_
    exact T.lsub [0] rfl (tb_m_eats_13 v0 0 h)
  · refine q_ic1 (pc := 8) (dq D_m_eats_0_ok 4 rfl) ?_
    refine q_goto (pc := 9) 13 (dq D_m_eats_0_ok 5 rfl) rfl ?_
    exact T.lsub [0] rfl (tb_m_eats_13 v0 1 h)
noncomputable def b_m_needs_13 (v0 : Nat) (h : Hp) : Option (Unit × Hp) := gd (hS h v0 = some (.inl 11)) (bd (f_m_goesOn v0 h) fun _ h1 => some ((), h1))
set_option maxHeartbeats 4000000 in
set_option maxRecDepth 20000 in
theorem tb_m_needs_13 {G : GG} (v0 : Nat) (h : Hp) : T G M_m_needs 6 cU 13 [(0, .ref v0)] [] h (b_m_needs_13 v0 h) := by
  unfold b_m_needs_13
  refine q_aload_n (pc := 13) (dq D_m_needs_0_ok 7 rfl) rfl 0 rfl ?_
  refine r_invU (Mc := M_m_goesOn) (pc := 14) (ci := 11) (rest := []) 1 0 [] (dq D_m_needs_0_ok 8 rfl) rfl rfl lc_m_goesOn lv_m_goesOn_ ml_m_122 rfl rfl rfl rfl (t_m_goesOn v0 h) (fun _ h1 => ?_)
  exact r_retu (pc := 17) (dq D_m_needs_0_ok 9 rfl) rfl
noncomputable def f_m_needs (v0 : Nat) (v1 : Nat) (h : Hp) : Option (Unit × Hp) := gd (hS h v0 = some (.inl 11)) (bd (f_m_isWord v0 v1 h) fun r2 h1 => if r2 = 0 then (gd (hS h1 v0 = some (.inl 11)) (bd (f_m_flaw v0 (1 : Int32) h1) fun _ h3 => b_m_needs_13 v0 h3)) else (b_m_needs_13 v0 h1))
set_option maxHeartbeats 4000000 in
set_option maxRecDepth 20000 in
theorem t_m_needs {G : GG} (v0 : Nat) (v1 : Nat) (h : Hp) : Mt G M_m_needs 6 [.ref v0, .ref (gT G v1)] cU h (f_m_needs v0 v1 h) := by
  refine Mt.ofF (by decide +kernel) rfl (Rt.v rfl rfl) ?_
  show T G M_m_needs 6 cU 0 [(0, .ref v0), (1, .ref (gT G v1))] [] h _
  unfold f_m_needs
  refine q_aload_n (pc := 0) (dq D_m_needs_0_ok 0 rfl) rfl 0 rfl ?_
  refine q_aload_n (pc := 1) (dq D_m_needs_0_ok 1 rfl) rfl 1 rfl ?_
  refine r_invI (Mc := M_m_isWord) (pc := 2) (ci := 11) (rest := []) 5 1 [.ref (gT G v1)] (dq D_m_needs_0_ok 2 rfl) rfl rfl lc_m_isWord lv_m_isWord_ ml_m_125 rfl rfl rfl rfl (t_m_isWord v0 v1 h) (fun r2 h1 => ?_)
  refine p_if_ne (pc := 5) 13 (dq D_m_needs_0_ok 3 rfl) rfl ?_ ?_
  · exact T.lsub [0] rfl (tb_m_needs_13 v0 h1)
  · refine q_aload_n (pc := 8) (dq D_m_needs_0_ok 4 rfl) rfl 0 rfl ?_
    refine q_ic1 (pc := 9) (dq D_m_needs_0_ok 5 rfl) ?_
    refine r_invU (Mc := M_m_flaw) (pc := 10) (ci := 11) (rest := []) 0 1 [.int 1] (dq D_m_needs_0_ok 6 rfl) rfl rfl lc_m_flaw lv_m_flaw_ ml_m_129 rfl rfl rfl rfl (t_m_flaw v0 (1 : Int32) h1) (fun _ h3 => ?_)
    exact T.lsub [0] rfl (tb_m_needs_13 v0 h3)
noncomputable def b_m_wholeAtHand_33 (v0 : Nat) (v1 : Int32) (h : Hp) : Option (Int32 × Hp) := gd (hS h v0 = some (.inl 11)) (lt (hI h v0 9) fun x1 => if x1 = 6 then (some (v1, h)) else (gd (hS h v0 = some (.inl 11)) (lt (hI h v0 11) fun x2 => some (x2, h))))
set_option maxHeartbeats 4000000 in
set_option maxRecDepth 20000 in
theorem tb_m_wholeAtHand_33 {G : GG} (v0 : Nat) (v1 : Int32) (h : Hp) : T G M_m_wholeAtHand 1 cI 33 [(0, .ref v0), (1, .int v1)] [] h (b_m_wholeAtHand_33 v0 v1 h) := by
  unfold b_m_wholeAtHand_33
  refine q_aload_n (pc := 33) (dq D_m_wholeAtHand_0_ok 17 rfl) rfl 0 rfl ?_
  refine r_getI (pc := 34) (dq D_m_wholeAtHand_0_ok 18 rfl) fa_m_86 rfl (fun x1 => ?_)
  refine q_bipush (pc := 37) (v := 6) (dq D_m_wholeAtHand_0_ok 19 rfl) (by decide) ?_
  refine q_ic_ne (pc := 39) 46 (dq D_m_wholeAtHand_0_ok 20 rfl) rfl ?_ ?_
  · refine q_aload_n (pc := 46) (dq D_m_wholeAtHand_0_ok 23 rfl) rfl 0 rfl ?_
    refine r_getI (pc := 47) (dq D_m_wholeAtHand_0_ok 24 rfl) fa_m_109 rfl (fun x2 => ?_)
    exact r_reti (pc := 50) (dq D_m_wholeAtHand_0_ok 25 rfl) rfl
  · refine q_iload_n (pc := 42) (dq D_m_wholeAtHand_0_ok 21 rfl) rfl 1 rfl ?_
    refine q_goto (pc := 43) 50 (dq D_m_wholeAtHand_0_ok 22 rfl) rfl ?_
    exact r_reti (pc := 50) (dq D_m_wholeAtHand_0_ok 25 rfl) rfl
noncomputable def f_m_wholeAtHand (v0 : Nat) (v1 : Int32) (v2 : Int32) (h : Hp) : Option (Int32 × Hp) := gd (hS h v0 = some (.inl 11)) (lt (hI h v0 9) fun x1 => if x1 = 3 then (gd (hS h v0 = some (.inl 11)) (lt (hI h v0 11) fun x2 => bd (f_m_in x2 v1 v2 h) fun r4 h3 => if r4 = 0 then (gd (hS h3 v0 = some (.inl 11)) (bd (f_m_flaw v0 (4 : Int32) h3) fun _ h5 => b_m_wholeAtHand_33 v0 v1 h5)) else (b_m_wholeAtHand_33 v0 v1 h3))) else (gd (hS h v0 = some (.inl 11)) (bd (f_m_flaw v0 (1 : Int32) h) fun _ h7 => b_m_wholeAtHand_33 v0 v1 h7)))
set_option maxHeartbeats 4000000 in
set_option maxRecDepth 20000 in
theorem t_m_wholeAtHand {G : GG} (v0 : Nat) (v1 : Int32) (v2 : Int32) (h : Hp) : Mt G M_m_wholeAtHand 1 [.ref v0, .int v1, .int v2] cI h (f_m_wholeAtHand v0 v1 v2 h) := by
  refine Mt.ofF (by decide +kernel) rfl (Rt.i rfl rfl) ?_
  show T G M_m_wholeAtHand 1 cI 0 [(0, .ref v0), (1, .int v1), (2, .int v2)] [] h _
  unfold f_m_wholeAtHand
  refine q_aload_n (pc := 0) (dq D_m_wholeAtHand_0_ok 0 rfl) rfl 0 rfl ?_
  refine r_getI (pc := 1) (dq D_m_wholeAtHand_0_ok 1 rfl) fa_m_86 rfl (fun x1 => ?_)
  refine q_ic3 (pc := 4) (dq D_m_wholeAtHand_0_ok 2 rfl) ?_
  refine q_ic_eq (pc := 5) 16 (dq D_m_wholeAtHand_0_ok 3 rfl) rfl ?_ ?_
  · refine q_aload_n (pc := 16) (dq D_m_wholeAtHand_0_ok 8 rfl) rfl 0 rfl ?_
    refine r_getI (pc := 17) (dq D_m_wholeAtHand_0_ok 9 rfl) fa_m_109 rfl (fun x2 => ?_)
    refine q_iload_n (pc := 20) (dq D_m_wholeAtHand_0_ok 10 rfl) rfl 1 rfl ?_
    refine q_iload_n (pc := 21) (dq D_m_wholeAtHand_0_ok 11 rfl) rfl 2 rfl ?_
    refine r_insI (Mc := M_m_in) (pc := 22) (rest := []) 0 3 [.int x2, .int v1, .int v2] (dq D_m_wholeAtHand_0_ok 12 rfl) lc_m_in ls_m_in ml_m_133 rfl rfl rfl rfl (t_m_in x2 v1 v2 h) (fun r4 h3 => ?_)
    refine p_if_ne (pc := 25) 33 (dq D_m_wholeAtHand_0_ok 13 rfl) rfl ?_ ?_
    · exact T.lsub [0, 1] rfl (tb_m_wholeAtHand_33 v0 v1 h3)
    · refine q_aload_n (pc := 28) (dq D_m_wholeAtHand_0_ok 14 rfl) rfl 0 rfl ?_
      refine q_ic4 (pc := 29) (dq D_m_wholeAtHand_0_ok 15 rfl) ?_
      refine r_invU (Mc := M_m_flaw) (pc := 30) (ci := 11) (rest := []) 0 1 [.int 4] (dq D_m_wholeAtHand_0_ok 16 rfl) rfl rfl lc_m_flaw lv_m_flaw_ ml_m_129 rfl rfl rfl rfl (t_m_flaw v0 (4 : Int32) h3) (fun _ h5 => ?_)
      exact T.lsub [0, 1] rfl (tb_m_wholeAtHand_33 v0 v1 h5)
  · refine q_aload_n (pc := 8) (dq D_m_wholeAtHand_0_ok 4 rfl) rfl 0 rfl ?_
    refine q_ic1 (pc := 9) (dq D_m_wholeAtHand_0_ok 5 rfl) ?_
    refine r_invU (Mc := M_m_flaw) (pc := 10) (ci := 11) (rest := []) 0 1 [.int 1] (dq D_m_wholeAtHand_0_ok 6 rfl) rfl rfl lc_m_flaw lv_m_flaw_ ml_m_129 rfl rfl rfl rfl (t_m_flaw v0 (1 : Int32) h) (fun _ h7 => ?_)
    refine q_goto (pc := 13) 33 (dq D_m_wholeAtHand_0_ok 7 rfl) rfl ?_
    exact T.lsub [0, 1] rfl (tb_m_wholeAtHand_33 v0 v1 h7)
noncomputable def f_m_readWhole (v0 : Nat) (v1 : Int32) (v2 : Int32) (h : Hp) : Option (Int32 × Hp) := gd (hS h v0 = some (.inl 11)) (bd (f_m_wholeAtHand v0 v1 v2 h) fun r2 h1 => gd (hS h1 v0 = some (.inl 11)) (bd (f_m_goesOn v0 h1) fun _ h3 => some (r2, h3)))
set_option maxHeartbeats 4000000 in
set_option maxRecDepth 20000 in
theorem t_m_readWhole {G : GG} (v0 : Nat) (v1 : Int32) (v2 : Int32) (h : Hp) : Mt G M_m_readWhole 2 [.ref v0, .int v1, .int v2] cI h (f_m_readWhole v0 v1 v2 h) := by
  refine Mt.ofF (by decide +kernel) rfl (Rt.i rfl rfl) ?_
  show T G M_m_readWhole 2 cI 0 [(0, .ref v0), (1, .int v1), (2, .int v2)] [] h _
  unfold f_m_readWhole
  refine q_aload_n (pc := 0) (dq D_m_readWhole_0_ok 0 rfl) rfl 0 rfl ?_
  refine q_iload_n (pc := 1) (dq D_m_readWhole_0_ok 1 rfl) rfl 1 rfl ?_
  refine q_iload_n (pc := 2) (dq D_m_readWhole_0_ok 2 rfl) rfl 2 rfl ?_
  refine r_invI (Mc := M_m_wholeAtHand) (pc := 3) (ci := 11) (rest := []) 1 2 [.int v1, .int v2] (dq D_m_readWhole_0_ok 3 rfl) rfl rfl lc_m_wholeAtHand lv_m_wholeAtHand_ ml_m_137 rfl rfl rfl rfl (t_m_wholeAtHand v0 v1 v2 h) (fun r2 h1 => ?_)
  refine q_istore_n (pc := 6) (ls' := [(3, .int r2), (0, .ref v0), (1, .int v1), (2, .int v2)]) (dq D_m_readWhole_0_ok 4 rfl) rfl rfl rfl ?_
  refine q_aload_n (pc := 7) (dq D_m_readWhole_0_ok 5 rfl) rfl 1 rfl ?_
  refine r_invU (Mc := M_m_goesOn) (pc := 8) (ci := 11) (rest := []) 1 0 [] (dq D_m_readWhole_0_ok 6 rfl) rfl rfl lc_m_goesOn lv_m_goesOn_ ml_m_122 rfl rfl rfl rfl (t_m_goesOn v0 h1) (fun _ h3 => ?_)
  refine q_iload_n (pc := 11) (dq D_m_readWhole_0_ok 7 rfl) rfl 0 rfl ?_
  exact r_reti (pc := 12) (dq D_m_readWhole_0_ok 8 rfl) rfl
noncomputable def f_m_readPart (v0 : Nat) (v1 : Nat) (v2 : Int32) (v3 : Int32) (h : Hp) : Option (Int32 × Hp) := gd (hS h v0 = some (.inl 11)) (bd (f_m_needs v0 v1 h) fun _ h1 => gd (hS h1 v0 = some (.inl 11)) (bd (f_m_readWhole v0 v2 v3 h1) fun r4 h3 => some (r4, h3)))
set_option maxHeartbeats 4000000 in
set_option maxRecDepth 20000 in
theorem t_m_readPart {G : GG} (v0 : Nat) (v1 : Nat) (v2 : Int32) (v3 : Int32) (h : Hp) : Mt G M_m_readPart 7 [.ref v0, .ref (gT G v1), .int v2, .int v3] cI h (f_m_readPart v0 v1 v2 v3 h) := by
  refine Mt.ofF (by decide +kernel) rfl (Rt.i rfl rfl) ?_
  show T G M_m_readPart 7 cI 0 [(0, .ref v0), (1, .ref (gT G v1)), (2, .int v2), (3, .int v3)] [] h _
  unfold f_m_readPart
  refine q_aload_n (pc := 0) (dq D_m_readPart_0_ok 0 rfl) rfl 0 rfl ?_
  refine q_aload_n (pc := 1) (dq D_m_readPart_0_ok 1 rfl) rfl 1 rfl ?_
  refine r_invU (Mc := M_m_needs) (pc := 2) (ci := 11) (rest := []) 6 1 [.ref (gT G v1)] (dq D_m_readPart_0_ok 2 rfl) rfl rfl lc_m_needs lv_m_needs_ ml_m_141 rfl rfl rfl rfl (t_m_needs v0 v1 h) (fun _ h1 => ?_)
  refine q_aload_n (pc := 5) (dq D_m_readPart_0_ok 3 rfl) rfl 0 rfl ?_
  refine q_iload_n (pc := 6) (dq D_m_readPart_0_ok 4 rfl) rfl 2 rfl ?_
  refine q_iload_n (pc := 7) (dq D_m_readPart_0_ok 5 rfl) rfl 3 rfl ?_
  refine r_invI (Mc := M_m_readWhole) (pc := 8) (ci := 11) (rest := []) 2 2 [.int v2, .int v3] (dq D_m_readPart_0_ok 6 rfl) rfl rfl lc_m_readWhole lv_m_readWhole_ ml_m_145 rfl rfl rfl rfl (t_m_readWhole v0 v2 v3 h1) (fun r4 h3 => ?_)
  exact r_reti (pc := 11) (dq D_m_readPart_0_ok 7 rfl) rfl
noncomputable def f_m_isName (v0 : Nat) (h : Hp) : Option (Int32 × Hp) := gd (hS h v0 = some (.inl 11)) (lt (hI h v0 9) fun x1 => if x1 = 2 then (gd (hS h v0 = some (.inl 11)) (bd (f_m_isWord v0 (1 : Nat) h) fun r3 h2 => if r3 = 0 then (gd (hS h2 v0 = some (.inl 11)) (bd (f_m_isWord v0 (4 : Nat) h2) fun r5 h4 => if r5 = 0 then (gd (hS h4 v0 = some (.inl 11)) (bd (f_m_isWord v0 (5 : Nat) h4) fun r7 h6 => if r7 = 0 then (gd (hS h6 v0 = some (.inl 11)) (bd (f_m_isWord v0 (6 : Nat) h6) fun r9 h8 => if r9 = 0 then (gd (hS h8 v0 = some (.inl 11)) (bd (f_m_isWord v0 (7 : Nat) h8) fun r11 h10 => if r11 = 0 then (gd (hS h10 v0 = some (.inl 11)) (bd (f_m_isWord v0 (8 : Nat) h10) fun r13 h12 => if r13 = 0 then (gd (hS h12 v0 = some (.inl 11)) (bd (f_m_isWord v0 (9 : Nat) h12) fun r15 h14 => if r15 = 0 then (gd (hS h14 v0 = some (.inl 11)) (bd (f_m_isWord v0 (10 : Nat) h14) fun r17 h16 => if r17 = 0 then (gd (hS h16 v0 = some (.inl 11)) (bd (f_m_isWord v0 (11 : Nat) h16) fun r19 h18 => if r19 = 0 then (gd (zb 1) (some (1, h18))) else (gd (zb 0) (some (0, h18))))) else (gd (zb 0) (some (0, h16))))) else (gd (zb 0) (some (0, h14))))) else (gd (zb 0) (some (0, h12))))) else (gd (zb 0) (some (0, h10))))) else (gd (zb 0) (some (0, h8))))) else (gd (zb 0) (some (0, h6))))) else (gd (zb 0) (some (0, h4))))) else (gd (zb 0) (some (0, h2))))) else (gd (zb 0) (some (0, h))))
set_option maxHeartbeats 4000000 in
set_option maxRecDepth 20000 in
theorem t_m_isName {G : GG} (v0 : Nat) (h : Hp) : Mt G M_m_isName 6 [.ref v0] cI h (f_m_isName v0 h) := by
  refine Mt.ofF (by decide +kernel) rfl (Rt.z rfl rfl) ?_
  show T G M_m_isName 6 cI 0 [(0, .ref v0)] [] h _
  unfold f_m_isName
  refine q_aload_n (pc := 0) (dq D_m_isName_0_ok 0 rfl) rfl 0 rfl ?_
  refine r_getI (pc := 1) (dq D_m_isName_0_ok 1 rfl) fa_m_86 rfl (fun x1 => ?_)
  refine q_ic2 (pc := 4) (dq D_m_isName_0_ok 2 rfl) ?_
  refine q_ic_ne (pc := 5) 53 (dq D_m_isName_0_ok 3 rfl) rfl ?_ ?_
  · refine q_ic0 (pc := 53) (dq D_m_isName_0_ok 24 rfl) ?_
    exact r_retz (pc := 54) (dq D_m_isName_0_ok 25 rfl) rfl
  · refine q_aload_n (pc := 8) (dq D_m_isName_0_ok 4 rfl) rfl 0 rfl ?_
    refine r_lds (pc := 9) 1 (dq D_m_isName_0_ok 5 rfl) rfl rfl rfl ?_
    refine r_invI (Mc := M_m_isWord) (pc := 11) (ci := 11) (rest := []) 5 1 [.ref (gT G 1)] (dq D_m_isName_0_ok 6 rfl) rfl rfl lc_m_isWord lv_m_isWord_ ml_m_125 rfl rfl rfl rfl (t_m_isWord v0 (1 : Nat) h) (fun r3 h2 => ?_)
    refine p_if_ne (pc := 14) 53 (dq D_m_isName_0_ok 7 rfl) rfl ?_ ?_
    · refine q_ic0 (pc := 53) (dq D_m_isName_0_ok 24 rfl) ?_
      exact r_retz (pc := 54) (dq D_m_isName_0_ok 25 rfl) rfl
    · refine q_aload_n (pc := 17) (dq D_m_isName_0_ok 8 rfl) rfl 0 rfl ?_
      refine r_lds (pc := 18) 4 (dq D_m_isName_0_ok 9 rfl) rfl rfl rfl ?_
      refine r_invI (Mc := M_m_isWord) (pc := 20) (ci := 11) (rest := []) 5 1 [.ref (gT G 4)] (dq D_m_isName_0_ok 10 rfl) rfl rfl lc_m_isWord lv_m_isWord_ ml_m_125 rfl rfl rfl rfl (t_m_isWord v0 (4 : Nat) h2) (fun r5 h4 => ?_)
      refine p_if_ne (pc := 23) 53 (dq D_m_isName_0_ok 11 rfl) rfl ?_ ?_
      · refine q_ic0 (pc := 53) (dq D_m_isName_0_ok 24 rfl) ?_
        exact r_retz (pc := 54) (dq D_m_isName_0_ok 25 rfl) rfl
      · refine q_aload_n (pc := 26) (dq D_m_isName_0_ok 12 rfl) rfl 0 rfl ?_
        refine r_lds (pc := 27) 5 (dq D_m_isName_0_ok 13 rfl) rfl rfl rfl ?_
        refine r_invI (Mc := M_m_isWord) (pc := 29) (ci := 11) (rest := []) 5 1 [.ref (gT G 5)] (dq D_m_isName_0_ok 14 rfl) rfl rfl lc_m_isWord lv_m_isWord_ ml_m_125 rfl rfl rfl rfl (t_m_isWord v0 (5 : Nat) h4) (fun r7 h6 => ?_)
        refine p_if_ne (pc := 32) 53 (dq D_m_isName_0_ok 15 rfl) rfl ?_ ?_
        · refine q_ic0 (pc := 53) (dq D_m_isName_0_ok 24 rfl) ?_
          exact r_retz (pc := 54) (dq D_m_isName_0_ok 25 rfl) rfl
        · refine q_aload_n (pc := 35) (dq D_m_isName_0_ok 16 rfl) rfl 0 rfl ?_
          refine r_lds (pc := 36) 6 (dq D_m_isName_0_ok 17 rfl) rfl rfl rfl ?_
          refine r_invI (Mc := M_m_isWord) (pc := 38) (ci := 11) (rest := []) 5 1 [.ref (gT G 6)] (dq D_m_isName_0_ok 18 rfl) rfl rfl lc_m_isWord lv_m_isWord_ ml_m_125 rfl rfl rfl rfl (t_m_isWord v0 (6 : Nat) h6) (fun r9 h8 => ?_)
          refine p_if_ne (pc := 41) 53 (dq D_m_isName_0_ok 19 rfl) rfl ?_ ?_
          · refine q_ic0 (pc := 53) (dq D_m_isName_0_ok 24 rfl) ?_
            exact r_retz (pc := 54) (dq D_m_isName_0_ok 25 rfl) rfl
          · refine q_aload_n (pc := 44) (dq D_m_isName_0_ok 20 rfl) rfl 0 rfl ?_
            refine r_lds (pc := 45) 7 (dq D_m_isName_0_ok 21 rfl) rfl rfl rfl ?_
            refine r_invI (Mc := M_m_isWord) (pc := 47) (ci := 11) (rest := []) 5 1 [.ref (gT G 7)] (dq D_m_isName_0_ok 22 rfl) rfl rfl lc_m_isWord lv_m_isWord_ ml_m_125 rfl rfl rfl rfl (t_m_isWord v0 (7 : Nat) h8) (fun r11 h10 => ?_)
            refine p_if_eq (pc := 50) 55 (dq D_m_isName_0_ok 23 rfl) rfl ?_ ?_
            · refine q_aload_n (pc := 55) (dq D_m_isName_0_ok 26 rfl) rfl 0 rfl ?_
              refine r_lds (pc := 56) 8 (dq D_m_isName_0_ok 27 rfl) rfl rfl rfl ?_
              refine r_invI (Mc := M_m_isWord) (pc := 58) (ci := 11) (rest := []) 5 1 [.ref (gT G 8)] (dq D_m_isName_0_ok 28 rfl) rfl rfl lc_m_isWord lv_m_isWord_ ml_m_125 rfl rfl rfl rfl (t_m_isWord v0 (8 : Nat) h10) (fun r13 h12 => ?_)
              refine p_if_ne (pc := 61) 95 (dq D_m_isName_0_ok 29 rfl) rfl ?_ ?_
              · refine q_ic0 (pc := 95) (dq D_m_isName_0_ok 44 rfl) ?_
                exact r_retz (pc := 96) (dq D_m_isName_0_ok 45 rfl) rfl
              · refine q_aload_n (pc := 64) (dq D_m_isName_0_ok 30 rfl) rfl 0 rfl ?_
                refine r_lds (pc := 65) 9 (dq D_m_isName_0_ok 31 rfl) rfl rfl rfl ?_
                refine r_invI (Mc := M_m_isWord) (pc := 67) (ci := 11) (rest := []) 5 1 [.ref (gT G 9)] (dq D_m_isName_0_ok 32 rfl) rfl rfl lc_m_isWord lv_m_isWord_ ml_m_125 rfl rfl rfl rfl (t_m_isWord v0 (9 : Nat) h12) (fun r15 h14 => ?_)
                refine p_if_ne (pc := 70) 95 (dq D_m_isName_0_ok 33 rfl) rfl ?_ ?_
                · refine q_ic0 (pc := 95) (dq D_m_isName_0_ok 44 rfl) ?_
                  exact r_retz (pc := 96) (dq D_m_isName_0_ok 45 rfl) rfl
                · refine q_aload_n (pc := 73) (dq D_m_isName_0_ok 34 rfl) rfl 0 rfl ?_
                  refine r_lds (pc := 74) 10 (dq D_m_isName_0_ok 35 rfl) rfl rfl rfl ?_
                  refine r_invI (Mc := M_m_isWord) (pc := 76) (ci := 11) (rest := []) 5 1 [.ref (gT G 10)] (dq D_m_isName_0_ok 36 rfl) rfl rfl lc_m_isWord lv_m_isWord_ ml_m_125 rfl rfl rfl rfl (t_m_isWord v0 (10 : Nat) h14) (fun r17 h16 => ?_)
                  refine p_if_ne (pc := 79) 95 (dq D_m_isName_0_ok 37 rfl) rfl ?_ ?_
                  · refine q_ic0 (pc := 95) (dq D_m_isName_0_ok 44 rfl) ?_
                    exact r_retz (pc := 96) (dq D_m_isName_0_ok 45 rfl) rfl
                  · refine q_aload_n (pc := 82) (dq D_m_isName_0_ok 38 rfl) rfl 0 rfl ?_
                    refine r_lds (pc := 83) 11 (dq D_m_isName_0_ok 39 rfl) rfl rfl rfl ?_
                    refine r_invI (Mc := M_m_isWord) (pc := 85) (ci := 11) (rest := []) 5 1 [.ref (gT G 11)] (dq D_m_isName_0_ok 40 rfl) rfl rfl lc_m_isWord lv_m_isWord_ ml_m_125 rfl rfl rfl rfl (t_m_isWord v0 (11 : Nat) h16) (fun r19 h18 => ?_)
                    refine p_if_ne (pc := 88) 95 (dq D_m_isName_0_ok 41 rfl) rfl ?_ ?_
                    · refine q_ic0 (pc := 95) (dq D_m_isName_0_ok 44 rfl) ?_
                      exact r_retz (pc := 96) (dq D_m_isName_0_ok 45 rfl) rfl
                    · refine q_ic1 (pc := 91) (dq D_m_isName_0_ok 42 rfl) ?_
                      refine q_goto (pc := 92) 96 (dq D_m_isName_0_ok 43 rfl) rfl ?_
                      exact r_retz (pc := 96) (dq D_m_isName_0_ok 45 rfl) rfl
            · refine q_ic0 (pc := 53) (dq D_m_isName_0_ok 24 rfl) ?_
              exact r_retz (pc := 54) (dq D_m_isName_0_ok 25 rfl) rfl
noncomputable def b_m_lineBegins_27 (v0 : Nat) (h : Hp) : Option (Unit × Hp) := gd (hS h v0 = some (.inl 11)) (bd (f_m_goesOn v0 h) fun _ h1 => some ((), h1))
set_option maxHeartbeats 4000000 in
set_option maxRecDepth 20000 in
theorem tb_m_lineBegins_27 {G : GG} (v0 : Nat) (h : Hp) : T G M_m_lineBegins 2 cU 27 [(0, .ref v0)] [] h (b_m_lineBegins_27 v0 h) := by
  unfold b_m_lineBegins_27
  refine q_aload_n (pc := 27) (dq D_m_lineBegins_0_ok 14 rfl) rfl 0 rfl ?_
  refine r_invU (Mc := M_m_goesOn) (pc := 28) (ci := 11) (rest := []) 1 0 [] (dq D_m_lineBegins_0_ok 15 rfl) rfl rfl lc_m_goesOn lv_m_goesOn_ ml_m_122 rfl rfl rfl rfl (t_m_goesOn v0 h) (fun _ h1 => ?_)
  exact r_retu (pc := 31) (dq D_m_lineBegins_0_ok 16 rfl) rfl
noncomputable def b_m_lineBegins_10 (v0 : Nat) (h : Hp) : Option (Unit × Hp) := gd (hS h v0 = some (.inl 11)) (bR (hR h v0 4) fun x1 => gd (hS h x1 = some (.inl 12)) (lt (hI h x1 0) fun x2 => if x2 = ((-1)) then (gd (hS h v0 = some (.inl 11)) (bd (f_m_flaw v0 (6 : Int32) h) fun _ h3 => b_m_lineBegins_27 v0 h3)) else (b_m_lineBegins_27 v0 h)))
set_option maxHeartbeats 4000000 in
set_option maxRecDepth 20000 in
theorem tb_m_lineBegins_10 {G : GG} (v0 : Nat) (h : Hp) : T G M_m_lineBegins 2 cU 10 [(0, .ref v0)] [] h (b_m_lineBegins_10 v0 h) := by
  unfold b_m_lineBegins_10
  refine q_aload_n (pc := 10) (dq D_m_lineBegins_0_ok 6 rfl) rfl 0 rfl ?_
  refine q_getR (pc := 11) (dq D_m_lineBegins_0_ok 7 rfl) fa_m_166 rfl (fun x1 => ?_)
  refine r_getI (pc := 14) (dq D_m_lineBegins_0_ok 8 rfl) fa_m_170 rfl (fun x2 => ?_)
  refine q_icm1 (pc := 17) (dq D_m_lineBegins_0_ok 9 rfl) ?_
  refine q_ic_ne (pc := 18) 27 (dq D_m_lineBegins_0_ok 10 rfl) rfl ?_ ?_
  · exact T.lsub [0] rfl (tb_m_lineBegins_27 v0 h)
  · refine q_aload_n (pc := 21) (dq D_m_lineBegins_0_ok 11 rfl) rfl 0 rfl ?_
    refine q_bipush (pc := 22) (v := 6) (dq D_m_lineBegins_0_ok 12 rfl) (by decide) ?_
    refine r_invU (Mc := M_m_flaw) (pc := 24) (ci := 11) (rest := []) 0 1 [.int 6] (dq D_m_lineBegins_0_ok 13 rfl) rfl rfl lc_m_flaw lv_m_flaw_ ml_m_129 rfl rfl rfl rfl (t_m_flaw v0 (6 : Int32) h) (fun _ h3 => ?_)
    exact T.lsub [0] rfl (tb_m_lineBegins_27 v0 h3)
noncomputable def f_m_lineBegins (v0 : Nat) (v1 : Int32) (v2 : Int32) (h : Hp) : Option (Unit × Hp) := if v1 = v2 then (gd (hS h v0 = some (.inl 11)) (bd (f_m_flaw v0 (5 : Int32) h) fun _ h1 => b_m_lineBegins_10 v0 h1)) else (b_m_lineBegins_10 v0 h)
set_option maxHeartbeats 4000000 in
set_option maxRecDepth 20000 in
theorem t_m_lineBegins {G : GG} (v0 : Nat) (v1 : Int32) (v2 : Int32) (h : Hp) : Mt G M_m_lineBegins 2 [.ref v0, .int v1, .int v2] cU h (f_m_lineBegins v0 v1 v2 h) := by
  refine Mt.ofF (by decide +kernel) rfl (Rt.v rfl rfl) ?_
  show T G M_m_lineBegins 2 cU 0 [(0, .ref v0), (1, .int v1), (2, .int v2)] [] h _
  unfold f_m_lineBegins
  refine q_iload_n (pc := 0) (dq D_m_lineBegins_0_ok 0 rfl) rfl 1 rfl ?_
  refine q_iload_n (pc := 1) (dq D_m_lineBegins_0_ok 1 rfl) rfl 2 rfl ?_
  refine q_ic_ne (pc := 2) 10 (dq D_m_lineBegins_0_ok 2 rfl) rfl ?_ ?_
  · exact T.lsub [0] rfl (tb_m_lineBegins_10 v0 h)
  · refine q_aload_n (pc := 5) (dq D_m_lineBegins_0_ok 3 rfl) rfl 0 rfl ?_
    refine q_ic5 (pc := 6) (dq D_m_lineBegins_0_ok 4 rfl) ?_
    refine r_invU (Mc := M_m_flaw) (pc := 7) (ci := 11) (rest := []) 0 1 [.int 5] (dq D_m_lineBegins_0_ok 5 rfl) rfl rfl lc_m_flaw lv_m_flaw_ ml_m_129 rfl rfl rfl rfl (t_m_flaw v0 (5 : Int32) h) (fun _ h1 => ?_)
    exact T.lsub [0] rfl (tb_m_lineBegins_10 v0 h1)
noncomputable def b_n_find_2 (k2 : (Nat × Int64 × Int32) → Hp → Option (Int32 × Hp)) (v0 : Nat) (v1 : Int64) (v3 : Int32) (h : Hp) : Option (Int32 × Hp) := gd (hS h v0 = some (.inl 12)) (lt (hI h v0 9) fun x1 => if x1 ≤ v3 then (some ((-1), h)) else (gd (hS h v0 = some (.inl 12)) (bR (hR h v0 24) fun x2 => gd (ai h x2 1 v3) (lt (hL h x2 v3.toNatClampNeg) fun x3 => if (lg_cmp x3 v1) = 0 then (some (v3, h)) else (k2 (v0, v1, v3 + 1) h)))))
set_option maxHeartbeats 4000000 in
set_option maxRecDepth 20000 in
theorem tb_n_find_2 {G : GG} {k2 : (Nat × Int64 × Int32) → Hp → Option (Int32 × Hp)} (hk2 : ∀ s h, T G M_n_find 0 cI 2 [(0, .ref s.1), (1, .long s.2.1), (3, .int s.2.2)] [] h (k2 s h)) (v0 : Nat) (v1 : Int64) (v3 : Int32) (h : Hp) : T G M_n_find 0 cI 2 [(0, .ref v0), (1, .long v1), (3, .int v3)] [] h (b_n_find_2 k2 v0 v1 v3 h) := by
  unfold b_n_find_2
  refine q_iload_n (pc := 2) (dq D_n_find_0_ok 2 rfl) rfl 2 rfl ?_
  refine q_aload_n (pc := 3) (dq D_n_find_0_ok 3 rfl) rfl 0 rfl ?_
  refine r_getI (pc := 4) (dq D_n_find_0_ok 4 rfl) fa_n_71 rfl (fun x1 => ?_)
  refine q_ic_ge (pc := 7) 29 (dq D_n_find_0_ok 5 rfl) rfl ?_ ?_
  · refine q_icm1 (pc := 29) (dq D_n_find_0_ok 17 rfl) ?_
    exact r_reti (pc := 30) (dq D_n_find_0_ok 18 rfl) rfl
  · refine q_aload_n (pc := 10) (dq D_n_find_0_ok 6 rfl) rfl 0 rfl ?_
    refine q_getR (pc := 11) (dq D_n_find_0_ok 7 rfl) fa_n_62 rfl (fun x2 => ?_)
    refine q_iload_n (pc := 14) (dq D_n_find_0_ok 8 rfl) rfl 2 rfl ?_
    refine r_lald (pc := 15) (dq D_n_find_0_ok 9 rfl) (fun x3 => ?_)
    refine q_lload_n (pc := 16) (dq D_n_find_0_ok 10 rfl) rfl 1 rfl ?_
    refine q_lcmp (pc := 17) (dq D_n_find_0_ok 11 rfl) ?_
    refine p_if_ne (pc := 18) 23 (dq D_n_find_0_ok 12 rfl) rfl ?_ ?_
    · refine q_iinc (pc := 23) (v := (1)) (ls' := [(3, .int (v3 + 1)), (0, .ref v0), (1, .long v1)]) (dq D_n_find_0_ok 15 rfl) 2 rfl (by decide) rfl rfl ?_
      refine q_goto (pc := 26) 2 (dq D_n_find_0_ok 16 rfl) rfl ?_
      exact T.lsub [1, 2, 0] rfl (hk2 (v0, v1, v3 + 1) h)
    · refine q_iload_n (pc := 21) (dq D_n_find_0_ok 13 rfl) rfl 2 rfl ?_
      exact r_reti (pc := 22) (dq D_n_find_0_ok 14 rfl) rfl
noncomputable def l_n_find_2 : Nat → (Nat × Int64 × Int32) → Hp → Option (Int32 × Hp) := lp (fun k2 s h => b_n_find_2 k2 s.1 s.2.1 s.2.2 h)
set_option maxHeartbeats 4000000 in
set_option maxRecDepth 20000 in
theorem tl_n_find_2 {G : GG} (n : Nat) (s : Nat × Int64 × Int32) (h : Hp) : T G M_n_find 0 cI 2 [(0, .ref s.1), (1, .long s.2.1), (3, .int s.2.2)] [] h (l_n_find_2 n s h) :=
  T.loop (lsOf := fun s => [(0, .ref s.1), (1, .long s.2.1), (3, .int s.2.2)]) (fun k2 hk2 s h => tb_n_find_2 hk2 s.1 s.2.1 s.2.2 h) n s h
noncomputable def f_n_find (v0 : Nat) (v1 : Int64) (h : Hp) : Option (Int32 × Hp) := lt (0 : Int32) fun y1 => l_n_find_2 FU (v0, v1, y1) h
set_option maxHeartbeats 4000000 in
set_option maxRecDepth 20000 in
theorem t_n_find {G : GG} (v0 : Nat) (v1 : Int64) (h : Hp) : Mt G M_n_find 0 [.ref v0, .long v1] cI h (f_n_find v0 v1 h) := by
  refine Mt.ofF (by decide +kernel) rfl (Rt.i rfl rfl) ?_
  show T G M_n_find 0 cI 0 [(0, .ref v0), (1, .long v1)] [] h _
  unfold f_n_find
  refine q_ic0 (pc := 0) (dq D_n_find_0_ok 0 rfl) ?_
  refine r_nmI (fun y1 => ?_)
  refine q_istore_n (pc := 1) (ls' := [(3, .int y1), (0, .ref v0), (1, .long v1)]) (dq D_n_find_0_ok 1 rfl) rfl rfl rfl ?_
  exact T.lsub [1, 2, 0] rfl (tl_n_find_2 FU (v0, v1, y1) h)
noncomputable def b_m_readFresh_32 (v0 : Nat) (h : Hp) : Option (Int64 × Hp) := gd (hS h v0 = some (.inl 11)) (lt (hL h v0 14) fun x1 => gd (hS h v0 = some (.inl 11)) (bd (f_m_goesOn v0 h) fun _ h2 => some (x1, h2)))
set_option maxHeartbeats 4000000 in
set_option maxRecDepth 20000 in
theorem tb_m_readFresh_32 {G : GG} (v0 : Nat) (h : Hp) : T G M_m_readFresh 7 cL 32 [(0, .ref v0)] [] h (b_m_readFresh_32 v0 h) := by
  unfold b_m_readFresh_32
  refine q_aload_n (pc := 32) (dq D_m_readFresh_0_ok 16 rfl) rfl 0 rfl ?_
  refine r_getL (pc := 33) (dq D_m_readFresh_0_ok 17 rfl) fa_m_102 rfl (fun x1 => ?_)
  refine q_lstore_n (pc := 36) (ls' := [(1, .long x1), (0, .ref v0)]) (dq D_m_readFresh_0_ok 18 rfl) rfl rfl rfl ?_
  refine q_aload_n (pc := 37) (dq D_m_readFresh_0_ok 19 rfl) rfl 1 rfl ?_
  refine r_invU (Mc := M_m_goesOn) (pc := 38) (ci := 11) (rest := []) 1 0 [] (dq D_m_readFresh_0_ok 20 rfl) rfl rfl lc_m_goesOn lv_m_goesOn_ ml_m_122 rfl rfl rfl rfl (t_m_goesOn v0 h) (fun _ h2 => ?_)
  refine q_lload_n (pc := 41) (dq D_m_readFresh_0_ok 21 rfl) rfl 0 rfl ?_
  exact r_retl (pc := 42) (dq D_m_readFresh_0_ok 22 rfl) rfl
noncomputable def b_m_readFresh_12 (v0 : Nat) (h : Hp) : Option (Int64 × Hp) := gd (hS h v0 = some (.inl 11)) (bR (hR h v0 4) fun x1 => gd (hS h v0 = some (.inl 11)) (lt (hL h v0 14) fun x2 => gd (hS h x1 = some (.inl 12)) (bd (f_n_find x1 x2 h) fun r4 h3 => if r4 = ((-1)) then (b_m_readFresh_32 v0 h3) else (gd (hS h3 v0 = some (.inl 11)) (bd (f_m_flaw v0 (3 : Int32) h3) fun _ h5 => b_m_readFresh_32 v0 h5)))))
set_option maxHeartbeats 4000000 in
set_option maxRecDepth 20000 in
theorem tb_m_readFresh_12 {G : GG} (v0 : Nat) (h : Hp) : T G M_m_readFresh 7 cL 12 [(0, .ref v0)] [] h (b_m_readFresh_12 v0 h) := by
  unfold b_m_readFresh_12
  refine q_aload_n (pc := 12) (dq D_m_readFresh_0_ok 6 rfl) rfl 0 rfl ?_
  refine q_getR (pc := 13) (dq D_m_readFresh_0_ok 7 rfl) fa_m_166 rfl (fun x1 => ?_)
  refine q_aload_n (pc := 16) (dq D_m_readFresh_0_ok 8 rfl) rfl 0 rfl ?_
  refine r_getL (pc := 17) (dq D_m_readFresh_0_ok 9 rfl) fa_m_102 rfl (fun x2 => ?_)
  refine r_invI (Mc := M_n_find) (pc := 20) (ci := 12) (rest := []) 0 1 [.long x2] (dq D_m_readFresh_0_ok 10 rfl) rfl rfl lc_n_find lv_n_find_ ml_m_179 rfl rfl rfl rfl (t_n_find x1 x2 h) (fun r4 h3 => ?_)
  refine q_icm1 (pc := 23) (dq D_m_readFresh_0_ok 11 rfl) ?_
  refine q_ic_eq (pc := 24) 32 (dq D_m_readFresh_0_ok 12 rfl) rfl ?_ ?_
  · exact T.lsub [0] rfl (tb_m_readFresh_32 v0 h3)
  · refine q_aload_n (pc := 27) (dq D_m_readFresh_0_ok 13 rfl) rfl 0 rfl ?_
    refine q_ic3 (pc := 28) (dq D_m_readFresh_0_ok 14 rfl) ?_
    refine r_invU (Mc := M_m_flaw) (pc := 29) (ci := 11) (rest := []) 0 1 [.int 3] (dq D_m_readFresh_0_ok 15 rfl) rfl rfl lc_m_flaw lv_m_flaw_ ml_m_129 rfl rfl rfl rfl (t_m_flaw v0 (3 : Int32) h3) (fun _ h5 => ?_)
    exact T.lsub [0] rfl (tb_m_readFresh_32 v0 h5)
noncomputable def f_m_readFresh (v0 : Nat) (h : Hp) : Option (Int64 × Hp) := gd (hS h v0 = some (.inl 11)) (bd (f_m_isName v0 h) fun r2 h1 => if r2 = 0 then (gd (hS h1 v0 = some (.inl 11)) (bd (f_m_flaw v0 (1 : Int32) h1) fun _ h3 => b_m_readFresh_12 v0 h3)) else (b_m_readFresh_12 v0 h1))
set_option maxHeartbeats 4000000 in
set_option maxRecDepth 20000 in
theorem t_m_readFresh {G : GG} (v0 : Nat) (h : Hp) : Mt G M_m_readFresh 7 [.ref v0] cL h (f_m_readFresh v0 h) := by
  refine Mt.ofF (by decide +kernel) rfl (Rt.l rfl rfl) ?_
  show T G M_m_readFresh 7 cL 0 [(0, .ref v0)] [] h _
  unfold f_m_readFresh
  refine q_aload_n (pc := 0) (dq D_m_readFresh_0_ok 0 rfl) rfl 0 rfl ?_
  refine r_invI (Mc := M_m_isName) (pc := 1) (ci := 11) (rest := []) 6 0 [] (dq D_m_readFresh_0_ok 1 rfl) rfl rfl lc_m_isName lv_m_isName_ ml_m_175 rfl rfl rfl rfl (t_m_isName v0 h) (fun r2 h1 => ?_)
  refine p_if_ne (pc := 4) 12 (dq D_m_readFresh_0_ok 2 rfl) rfl ?_ ?_
  · exact T.lsub [0] rfl (tb_m_readFresh_12 v0 h1)
  · refine q_aload_n (pc := 7) (dq D_m_readFresh_0_ok 3 rfl) rfl 0 rfl ?_
    refine q_ic1 (pc := 8) (dq D_m_readFresh_0_ok 4 rfl) ?_
    refine r_invU (Mc := M_m_flaw) (pc := 9) (ci := 11) (rest := []) 0 1 [.int 1] (dq D_m_readFresh_0_ok 5 rfl) rfl rfl lc_m_flaw lv_m_flaw_ ml_m_129 rfl rfl rfl rfl (t_m_flaw v0 (1 : Int32) h1) (fun _ h3 => ?_)
    exact T.lsub [0] rfl (tb_m_readFresh_12 v0 h3)
noncomputable def f_m_names (v0 : Nat) (v1 : Int64) (v3 : Int32) (v4 : Int32) (h : Hp) : Option (Unit × Hp) := gd (hS h v0 = some (.inl 11)) (bR (hR h v0 4) fun x1 => gd (hS h x1 = some (.inl 12)) (bR (hR h x1 24) fun x2 => gd (hS h v0 = some (.inl 11)) (bR (hR h v0 4) fun x3 => gd (hS h x3 = some (.inl 12)) (lt (hI h x3 9) fun x4 => gd (ai h x2 1 x4) (lt (uL h x2 x4.toNatClampNeg v1) fun h5 => gd (hS h5 v0 = some (.inl 11)) (bR (hR h5 v0 4) fun x6 => gd (hS h5 x6 = some (.inl 12)) (bR (hR h5 x6 25) fun x7 => gd (hS h5 v0 = some (.inl 11)) (bR (hR h5 v0 4) fun x8 => gd (hS h5 x8 = some (.inl 12)) (lt (hI h5 x8 9) fun x9 => gd (ai h5 x7 0 x9) (lt (uI h5 x7 x9.toNatClampNeg v3) fun h10 => gd (hS h10 v0 = some (.inl 11)) (bR (hR h10 v0 4) fun x11 => gd (hS h10 x11 = some (.inl 12)) (bR (hR h10 x11 26) fun x12 => gd (hS h10 v0 = some (.inl 11)) (bR (hR h10 v0 4) fun x13 => gd (hS h10 x13 = some (.inl 12)) (lt (hI h10 x13 9) fun x14 => gd (ai h10 x12 0 x14) (lt (uI h10 x12 x14.toNatClampNeg v4) fun h15 => gd (hS h15 v0 = some (.inl 11)) (bR (hR h15 v0 4) fun x16 => gd (hS h15 x16 = some (.inl 12)) (lt (hI h15 x16 9) fun x17 => gd (hS h15 x16 = some (.inl 12)) (lt (uI h15 x16 9 (x17 + 1)) fun h18 => some ((), h18)))))))))))))))))))
set_option maxHeartbeats 4000000 in
set_option maxRecDepth 20000 in
theorem t_m_names {G : GG} (v0 : Nat) (v1 : Int64) (v3 : Int32) (v4 : Int32) (h : Hp) : Mt G M_m_names 0 [.ref v0, .long v1, .int v3, .int v4] cU h (f_m_names v0 v1 v3 v4 h) := by
  refine Mt.ofF (by decide +kernel) rfl (Rt.v rfl rfl) ?_
  show T G M_m_names 0 cU 0 [(0, .ref v0), (1, .long v1), (3, .int v3), (4, .int v4)] [] h _
  unfold f_m_names
  refine q_aload_n (pc := 0) (dq D_m_names_0_ok 0 rfl) rfl 0 rfl ?_
  refine q_getR (pc := 1) (dq D_m_names_0_ok 1 rfl) fa_m_166 rfl (fun x1 => ?_)
  refine q_getR (pc := 4) (dq D_m_names_0_ok 2 rfl) fa_m_183 rfl (fun x2 => ?_)
  refine q_aload_n (pc := 7) (dq D_m_names_0_ok 3 rfl) rfl 0 rfl ?_
  refine q_getR (pc := 8) (dq D_m_names_0_ok 4 rfl) fa_m_166 rfl (fun x3 => ?_)
  refine r_getI (pc := 11) (dq D_m_names_0_ok 5 rfl) fa_m_187 rfl (fun x4 => ?_)
  refine q_lload_n (pc := 14) (dq D_m_names_0_ok 6 rfl) rfl 1 rfl ?_
  refine r_last (pc := 15) (dq D_m_names_0_ok 7 rfl) (fun h5 => ?_)
  refine q_aload_n (pc := 16) (dq D_m_names_0_ok 8 rfl) rfl 0 rfl ?_
  refine q_getR (pc := 17) (dq D_m_names_0_ok 9 rfl) fa_m_166 rfl (fun x6 => ?_)
  refine q_getR (pc := 20) (dq D_m_names_0_ok 10 rfl) fa_m_190 rfl (fun x7 => ?_)
  refine q_aload_n (pc := 23) (dq D_m_names_0_ok 11 rfl) rfl 0 rfl ?_
  refine q_getR (pc := 24) (dq D_m_names_0_ok 12 rfl) fa_m_166 rfl (fun x8 => ?_)
  refine r_getI (pc := 27) (dq D_m_names_0_ok 13 rfl) fa_m_187 rfl (fun x9 => ?_)
  refine q_iload_n (pc := 30) (dq D_m_names_0_ok 14 rfl) rfl 2 rfl ?_
  refine r_iast (pc := 31) (dq D_m_names_0_ok 15 rfl) (fun h10 => ?_)
  refine q_aload_n (pc := 32) (dq D_m_names_0_ok 16 rfl) rfl 0 rfl ?_
  refine q_getR (pc := 33) (dq D_m_names_0_ok 17 rfl) fa_m_166 rfl (fun x11 => ?_)
  refine q_getR (pc := 36) (dq D_m_names_0_ok 18 rfl) fa_m_193 rfl (fun x12 => ?_)
  refine q_aload_n (pc := 39) (dq D_m_names_0_ok 19 rfl) rfl 0 rfl ?_
  refine q_getR (pc := 40) (dq D_m_names_0_ok 20 rfl) fa_m_166 rfl (fun x13 => ?_)
  refine r_getI (pc := 43) (dq D_m_names_0_ok 21 rfl) fa_m_187 rfl (fun x14 => ?_)
  refine q_iload (pc := 46) (dq D_m_names_0_ok 22 rfl) 3 rfl ?_
  refine r_iast (pc := 48) (dq D_m_names_0_ok 23 rfl) (fun h15 => ?_)
  refine q_aload_n (pc := 49) (dq D_m_names_0_ok 24 rfl) rfl 0 rfl ?_
  refine q_getR (pc := 50) (dq D_m_names_0_ok 25 rfl) fa_m_166 rfl (fun x16 => ?_)
  refine q_dup (pc := 53) (dq D_m_names_0_ok 26 rfl) rfl ?_
  refine r_getI (pc := 54) (dq D_m_names_0_ok 27 rfl) fa_m_187 rfl (fun x17 => ?_)
  refine q_ic1 (pc := 57) (dq D_m_names_0_ok 28 rfl) ?_
  refine q_iadd (pc := 58) (dq D_m_names_0_ok 29 rfl) ?_
  refine r_putI (pc := 59) (dq D_m_names_0_ok 30 rfl) fp_m_187 rfl rfl (fun h18 => ?_)
  exact r_retu (pc := 62) (dq D_m_names_0_ok 31 rfl) rfl
noncomputable def b_m_knownOne_47 (v0 : Nat) (v2 : Int32) (h : Hp) : Option (Int32 × Hp) := gd (hS h v0 = some (.inl 11)) (lt (hI h v0 9) fun x1 => if x1 = 6 then (some (0, h)) else (gd (hS h v0 = some (.inl 11)) (bR (hR h v0 4) fun x2 => gd (hS h x2 = some (.inl 12)) (bR (hR h x2 26) fun x3 => gd (ai h x3 0 v2) (lt (hI h x3 v2.toNatClampNeg) fun x4 => some (x4, h))))))
set_option maxHeartbeats 4000000 in
set_option maxRecDepth 20000 in
theorem tb_m_knownOne_47 {G : GG} (v0 : Nat) (v2 : Int32) (h : Hp) : T G M_m_knownOne 7 cI 47 [(0, .ref v0), (2, .int v2)] [] h (b_m_knownOne_47 v0 v2 h) := by
  unfold b_m_knownOne_47
  refine q_aload_n (pc := 47) (dq D_m_knownOne_0_ok 25 rfl) rfl 0 rfl ?_
  refine r_getI (pc := 48) (dq D_m_knownOne_0_ok 26 rfl) fa_m_86 rfl (fun x1 => ?_)
  refine q_bipush (pc := 51) (v := 6) (dq D_m_knownOne_0_ok 27 rfl) (by decide) ?_
  refine q_ic_ne (pc := 53) 60 (dq D_m_knownOne_0_ok 28 rfl) rfl ?_ ?_
  · refine q_aload_n (pc := 60) (dq D_m_knownOne_0_ok 31 rfl) rfl 0 rfl ?_
    refine q_getR (pc := 61) (dq D_m_knownOne_0_ok 32 rfl) fa_m_166 rfl (fun x2 => ?_)
    refine q_getR (pc := 64) (dq D_m_knownOne_0_ok 33 rfl) fa_m_193 rfl (fun x3 => ?_)
    refine q_iload_n (pc := 67) (dq D_m_knownOne_0_ok 34 rfl) rfl 1 rfl ?_
    refine r_iald (pc := 68) (dq D_m_knownOne_0_ok 35 rfl) (fun x4 => ?_)
    exact r_reti (pc := 69) (dq D_m_knownOne_0_ok 36 rfl) rfl
  · refine q_ic0 (pc := 56) (dq D_m_knownOne_0_ok 29 rfl) ?_
    refine q_goto (pc := 57) 69 (dq D_m_knownOne_0_ok 30 rfl) rfl ?_
    exact r_reti (pc := 69) (dq D_m_knownOne_0_ok 36 rfl) rfl
noncomputable def b_m_knownOne_42 (v0 : Nat) (v2 : Int32) (h : Hp) : Option (Int32 × Hp) := gd (hS h v0 = some (.inl 11)) (bd (f_m_flaw v0 (2 : Int32) h) fun _ h1 => b_m_knownOne_47 v0 v2 h1)
set_option maxHeartbeats 4000000 in
set_option maxRecDepth 20000 in
theorem tb_m_knownOne_42 {G : GG} (v0 : Nat) (v2 : Int32) (h : Hp) : T G M_m_knownOne 7 cI 42 [(0, .ref v0), (2, .int v2)] [] h (b_m_knownOne_42 v0 v2 h) := by
  unfold b_m_knownOne_42
  refine q_aload_n (pc := 42) (dq D_m_knownOne_0_ok 22 rfl) rfl 0 rfl ?_
  refine q_ic2 (pc := 43) (dq D_m_knownOne_0_ok 23 rfl) ?_
  refine r_invU (Mc := M_m_flaw) (pc := 44) (ci := 11) (rest := []) 0 1 [.int 2] (dq D_m_knownOne_0_ok 24 rfl) rfl rfl lc_m_flaw lv_m_flaw_ ml_m_129 rfl rfl rfl rfl (t_m_flaw v0 (2 : Int32) h) (fun _ h1 => ?_)
  exact T.lsub [0, 1] rfl (tb_m_knownOne_47 v0 v2 h1)
noncomputable def b_m_knownOne_12 (v0 : Nat) (v1 : Int32) (h : Hp) : Option (Int32 × Hp) := gd (hS h v0 = some (.inl 11)) (bR (hR h v0 4) fun x1 => gd (hS h v0 = some (.inl 11)) (lt (hL h v0 14) fun x2 => gd (hS h x1 = some (.inl 12)) (bd (f_n_find x1 x2 h) fun r4 h3 => if r4 = ((-1)) then (b_m_knownOne_42 v0 r4 h3) else (gd (hS h3 v0 = some (.inl 11)) (bR (hR h3 v0 4) fun x5 => gd (hS h3 x5 = some (.inl 12)) (bR (hR h3 x5 25) fun x6 => gd (ai h3 x6 0 r4) (lt (hI h3 x6 r4.toNatClampNeg) fun x7 => if x7 = v1 then (b_m_knownOne_47 v0 r4 h3) else (b_m_knownOne_42 v0 r4 h3))))))))
set_option maxHeartbeats 4000000 in
set_option maxRecDepth 20000 in
theorem tb_m_knownOne_12 {G : GG} (v0 : Nat) (v1 : Int32) (h : Hp) : T G M_m_knownOne 7 cI 12 [(0, .ref v0), (1, .int v1)] [] h (b_m_knownOne_12 v0 v1 h) := by
  unfold b_m_knownOne_12
  refine q_aload_n (pc := 12) (dq D_m_knownOne_0_ok 6 rfl) rfl 0 rfl ?_
  refine q_getR (pc := 13) (dq D_m_knownOne_0_ok 7 rfl) fa_m_166 rfl (fun x1 => ?_)
  refine q_aload_n (pc := 16) (dq D_m_knownOne_0_ok 8 rfl) rfl 0 rfl ?_
  refine r_getL (pc := 17) (dq D_m_knownOne_0_ok 9 rfl) fa_m_102 rfl (fun x2 => ?_)
  refine r_invI (Mc := M_n_find) (pc := 20) (ci := 12) (rest := []) 0 1 [.long x2] (dq D_m_knownOne_0_ok 10 rfl) rfl rfl lc_n_find lv_n_find_ ml_m_179 rfl rfl rfl rfl (t_n_find x1 x2 h) (fun r4 h3 => ?_)
  refine q_istore_n (pc := 23) (ls' := [(2, .int r4), (0, .ref v0), (1, .int v1)]) (dq D_m_knownOne_0_ok 11 rfl) rfl rfl rfl ?_
  refine q_iload_n (pc := 24) (dq D_m_knownOne_0_ok 12 rfl) rfl 0 rfl ?_
  refine q_icm1 (pc := 25) (dq D_m_knownOne_0_ok 13 rfl) ?_
  refine q_ic_eq (pc := 26) 42 (dq D_m_knownOne_0_ok 14 rfl) rfl ?_ ?_
  · exact T.lsub [1, 0] rfl (tb_m_knownOne_42 v0 r4 h3)
  · refine q_aload_n (pc := 29) (dq D_m_knownOne_0_ok 15 rfl) rfl 1 rfl ?_
    refine q_getR (pc := 30) (dq D_m_knownOne_0_ok 16 rfl) fa_m_166 rfl (fun x5 => ?_)
    refine q_getR (pc := 33) (dq D_m_knownOne_0_ok 17 rfl) fa_m_190 rfl (fun x6 => ?_)
    refine q_iload_n (pc := 36) (dq D_m_knownOne_0_ok 18 rfl) rfl 0 rfl ?_
    refine r_iald (pc := 37) (dq D_m_knownOne_0_ok 19 rfl) (fun x7 => ?_)
    refine q_iload_n (pc := 38) (dq D_m_knownOne_0_ok 20 rfl) rfl 2 rfl ?_
    refine q_ic_eq (pc := 39) 47 (dq D_m_knownOne_0_ok 21 rfl) rfl ?_ ?_
    · exact T.lsub [1, 0] rfl (tb_m_knownOne_47 v0 r4 h3)
    · exact T.lsub [1, 0] rfl (tb_m_knownOne_42 v0 r4 h3)
noncomputable def f_m_knownOne (v0 : Nat) (v1 : Int32) (h : Hp) : Option (Int32 × Hp) := gd (hS h v0 = some (.inl 11)) (bd (f_m_isName v0 h) fun r2 h1 => if r2 = 0 then (gd (hS h1 v0 = some (.inl 11)) (bd (f_m_flaw v0 (1 : Int32) h1) fun _ h3 => b_m_knownOne_12 v0 v1 h3)) else (b_m_knownOne_12 v0 v1 h1))
set_option maxHeartbeats 4000000 in
set_option maxRecDepth 20000 in
theorem t_m_knownOne {G : GG} (v0 : Nat) (v1 : Int32) (h : Hp) : Mt G M_m_knownOne 7 [.ref v0, .int v1] cI h (f_m_knownOne v0 v1 h) := by
  refine Mt.ofF (by decide +kernel) rfl (Rt.i rfl rfl) ?_
  show T G M_m_knownOne 7 cI 0 [(0, .ref v0), (1, .int v1)] [] h _
  unfold f_m_knownOne
  refine q_aload_n (pc := 0) (dq D_m_knownOne_0_ok 0 rfl) rfl 0 rfl ?_
  refine r_invI (Mc := M_m_isName) (pc := 1) (ci := 11) (rest := []) 6 0 [] (dq D_m_knownOne_0_ok 1 rfl) rfl rfl lc_m_isName lv_m_isName_ ml_m_175 rfl rfl rfl rfl (t_m_isName v0 h) (fun r2 h1 => ?_)
  refine p_if_ne (pc := 4) 12 (dq D_m_knownOne_0_ok 2 rfl) rfl ?_ ?_
  · exact T.lsub [0, 1] rfl (tb_m_knownOne_12 v0 v1 h1)
  · refine q_aload_n (pc := 7) (dq D_m_knownOne_0_ok 3 rfl) rfl 0 rfl ?_
    refine q_ic1 (pc := 8) (dq D_m_knownOne_0_ok 4 rfl) ?_
    refine r_invU (Mc := M_m_flaw) (pc := 9) (ci := 11) (rest := []) 0 1 [.int 1] (dq D_m_knownOne_0_ok 5 rfl) rfl rfl lc_m_flaw lv_m_flaw_ ml_m_129 rfl rfl rfl rfl (t_m_flaw v0 (1 : Int32) h1) (fun _ h3 => ?_)
    exact T.lsub [0, 1] rfl (tb_m_knownOne_12 v0 v1 h3)
noncomputable def f_m_readKnown (v0 : Nat) (v1 : Int32) (h : Hp) : Option (Int32 × Hp) := gd (hS h v0 = some (.inl 11)) (bd (f_m_knownOne v0 v1 h) fun r2 h1 => gd (hS h1 v0 = some (.inl 11)) (bd (f_m_goesOn v0 h1) fun _ h3 => some (r2, h3)))
set_option maxHeartbeats 4000000 in
set_option maxRecDepth 20000 in
theorem t_m_readKnown {G : GG} (v0 : Nat) (v1 : Int32) (h : Hp) : Mt G M_m_readKnown 8 [.ref v0, .int v1] cI h (f_m_readKnown v0 v1 h) := by
  refine Mt.ofF (by decide +kernel) rfl (Rt.i rfl rfl) ?_
  show T G M_m_readKnown 8 cI 0 [(0, .ref v0), (1, .int v1)] [] h _
  unfold f_m_readKnown
  refine q_aload_n (pc := 0) (dq D_m_readKnown_0_ok 0 rfl) rfl 0 rfl ?_
  refine q_iload_n (pc := 1) (dq D_m_readKnown_0_ok 1 rfl) rfl 1 rfl ?_
  refine r_invI (Mc := M_m_knownOne) (pc := 2) (ci := 11) (rest := []) 7 1 [.int v1] (dq D_m_readKnown_0_ok 2 rfl) rfl rfl lc_m_knownOne lv_m_knownOne_ ml_m_196 rfl rfl rfl rfl (t_m_knownOne v0 v1 h) (fun r2 h1 => ?_)
  refine q_istore_n (pc := 5) (ls' := [(2, .int r2), (0, .ref v0), (1, .int v1)]) (dq D_m_readKnown_0_ok 3 rfl) rfl rfl rfl ?_
  refine q_aload_n (pc := 6) (dq D_m_readKnown_0_ok 4 rfl) rfl 1 rfl ?_
  refine r_invU (Mc := M_m_goesOn) (pc := 7) (ci := 11) (rest := []) 1 0 [] (dq D_m_readKnown_0_ok 5 rfl) rfl rfl lc_m_goesOn lv_m_goesOn_ ml_m_122 rfl rfl rfl rfl (t_m_goesOn v0 h1) (fun _ h3 => ?_)
  refine q_iload_n (pc := 10) (dq D_m_readKnown_0_ok 6 rfl) rfl 0 rfl ?_
  exact r_reti (pc := 11) (dq D_m_readKnown_0_ok 7 rfl) rfl
